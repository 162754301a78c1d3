/** The sentences of the terms and of promises 32 to 34 that name a boundary, one method for each. */
public final class AccountBoundariesTest {
    private static final int LEAST = Check.LEAST;
    private static final int MOST = Check.MOST;

    public static void main(String[] args) {
        accounts();
        entries();
        quotas();
        Check.end();
    }

    // ---- promise 32

    private static void accounts() {
        noSuchAccount();
        countsOfAccounts();
        owedBeyondAnInt();
    }

    private static void noSuchAccount() {
        Check.promise(32, "Throws IllegalArgumentException if account is not 0 to 11");
        ArbitrationFees x = Check.withParties(0, 1);
        Check.eachThrows("account", Check.ARGUMENT, n -> x.account(n), -1, 12, LEAST, MOST);
        Check.due("account(0)", x.account(0), 2);
        Check.due("account(11)", x.account(11), 0);
    }

    private static void countsOfAccounts() {
        Check.promise(32, "Returns an account.");
        ArbitrationFees none = new ArbitrationFees();
        for (int i = 0; i <= 11; i++) {
            Check.due("account(" + i + ") of a new object", none.account(i), 0);
        }
        ArbitrationFees x = Check.withParties(0, 1, 0, 1, 0, 1);
        for (int i = 0; i < 12; i++) {
            x.claim(0, 1, 100000000);
        }
        Check.due("parties", x.account(0), 6);
        Check.due("claims", x.account(1), 12);
        Check.due("left of all claims", x.account(10), 1200000000);
        x.withdraw(11, 100000000);
        Check.due("left of all claims then", x.account(10), 1100000000);
    }

    private static void owedBeyondAnInt() {
        Check.promise(32, "3 for all that is owed, 4 for all that is paid as deposits");
        ArbitrationFees x = Check.withParties(0, 1, 0, 1, 0, 1);
        for (int i = 0; i < 30; i++) {
            x.call(100000000);
        }
        Check.due("short", x.account(11), 3000000000L);
        for (int i = 0; i < 6; i++) {
            x.payFor(i, (i + 1) % 6);
        }
        Check.due("owed", x.account(3), 3000000000L);
        Check.due("paid", x.account(4), 3000000000L);
        Check.due("held", x.account(7), 3000000000L);
        Check.due("short then", x.account(11), 0);
        Check.due("debts", x.account(2), 6);
    }

    // ---- promise 33

    private static void entries() {
        noSuchEntry();
        sixteenEntries();
        entriesOfNothing();
        noEntryOfWhatIsNoKind();
        noEntryOfAnException();
    }

    private static void noSuchEntry() {
        Check.promise(33, "Throws NoSuchElementException if there is no such entry");
        ArbitrationFees x = Check.withParties(0, 1);
        Check.eachThrows("entry(n, true) of none", Check.NONE, n -> x.entry(n, true), 0, -1, 15, 16, LEAST, MOST);
        Check.eachThrows("entry(n, false) of none", Check.NONE, n -> x.entry(n, false), 0, -1, 15, 16, LEAST, MOST);
        x.pay(0, 5);
        Check.eachThrows("entry(n, true) of one", Check.NONE, n -> x.entry(n, true), 1, -1, 15, 16, LEAST, MOST);
        Check.eachThrows("entry(n, false) of one", Check.NONE, n -> x.entry(n, false), 1, -1, 15, 16, LEAST, MOST);
        Check.due("the only one", x.entry(0, true), 5);
    }

    private static void sixteenEntries() {
        Check.sentence("Only the latest 16 entries are kept, numbered from 0, the oldest one first.");
        ArbitrationFees x = Check.withParties(0, 1);
        for (int i = 1; i <= 15; i++) {
            x.pay(0, i);
        }
        Check.thrown("no sixteenth entry", Check.NONE, () -> x.entry(15, true));
        x.call(16);
        Check.due("the sixteenth entry", x.entry(15, true), 16);
        Check.due("the oldest one is still there", x.entry(0, true), 1);
        x.pay(0, 17);
        Check.due("the oldest one then", x.entry(0, true), 2);
        Check.due("the one before the latest", x.entry(14, true), 16);
        Check.due("its kind", x.entry(14, false), 4);
        Check.due("the latest one", x.entry(15, true), 17);
        Check.due("its kind", x.entry(15, false), 5);
        Check.eachThrows("entry(n, true)", Check.NONE, n -> x.entry(n, true), 16, 17, -1, LEAST, MOST);
        Check.sentence("The journal is remembered, too.");
        x.undo();
        Check.due("the oldest one behind undo", x.entry(0, true), 1);
        Check.due("the latest one behind undo", x.entry(15, true), 16);
    }

    private static void entriesOfNothing() {
        Check.sentence("Each successful call of one of these kinds adds an entry with its kind and its amount, also if this is 0");
        ArbitrationFees x = new ArbitrationFees();
        x.goOn();
        x.goOn();
        x.goOn();
        x.call(1);
        x.takeFees();
        x.giveBack();
        x.clearRings();
        int[] kinds = {4, 6, 7, 10};
        for (int i = 0; i < 4; i++) {
            Check.due("kind of " + i, x.entry(i, false), kinds[i]);
            Check.due("amount of " + i, x.entry(i, true), 0);
        }
        Check.thrown("no fifth entry", Check.NONE, () -> x.entry(4, true));
    }

    private static void noEntryOfWhatIsNoKind() {
        Check.sentence("Each successful call of one of these kinds adds an entry");
        ArbitrationFees x = Check.withParties(0, 1);
        x.setRate(0, 5);
        x.setTier(0, 5);
        x.claim(0, 1, 5);
        x.pass(5);
        x.goOn();
        x.save();
        x.restore();
        Check.thrown("no entry", Check.NONE, () -> x.entry(0, true));
    }

    private static void noEntryOfAnException() {
        Check.sentence("Each successful call of one of these kinds adds an entry");
        ArbitrationFees x = Check.withParties(0, 1);
        x.claim(0, 1, 5);
        Check.thrown("award", Check.REFUSED, () -> x.award(0, 1));
        Check.thrown("dismiss", Check.REFUSED, () -> x.dismiss(0, 1));
        Check.thrown("withdraw", Check.REFUSED, () -> x.withdraw(0, 6));
        Check.thrown("call", Check.ARGUMENT, () -> x.call(0));
        Check.thrown("pay", Check.ARGUMENT, () -> x.pay(0, 0));
        Check.thrown("payFor", Check.STATE, () -> x.payFor(0, 1));
        Check.thrown("giveBack", Check.REFUSED, () -> x.giveBack());
        Check.thrown("settle", Check.REFUSED, () -> x.settle(0, 1, 1));
        Check.thrown("offset", Check.REFUSED, () -> x.offset(0, 1));
        Check.thrown("no entry", Check.NONE, () -> x.entry(0, true));
    }

    // ---- promise 34

    private static void quotas() {
        noSuchSideOfAQuota();
        sumIsZero();
        quotaFrom0To1();
        quotaOfTheLargest();
    }

    private static void noSuchSideOfAQuota() {
        Check.promise(34, "Throws IndexOutOfBoundsException if there is no such side");
        ArbitrationFees x = Check.withParties(0, 1);
        Check.eachThrows("quota without claims", Check.INDEX, n -> x.quota(n), -1, 2, LEAST, MOST);
        x.claim(0, 1, 5);
        Check.eachThrows("quota", Check.INDEX, n -> x.quota(n), -1, 2, LEAST, MOST);
    }

    private static void sumIsZero() {
        Check.promise(34, "Throws ArithmeticException if that sum is 0");
        ArbitrationFees x = Check.withParties(0, 1);
        Check.eachThrows("quota without claims", Check.ARITHMETIC, n -> x.quota(n), 0, 1);
        x.claim(0, 1, 5);
        x.claim(0, 1, 7);
        Check.thrown("the other side has no claims", Check.ARITHMETIC, () -> x.quota(1));
        x.withdraw(0, 5);
        x.withdraw(1, 6);
        Check.dueDouble("one cent is not withdrawn", x.quota(0), 0.0);
        x.withdraw(1, 1);
        Check.thrown("all is withdrawn", Check.ARITHMETIC, () -> x.quota(0));
        x.claim(1, 0, 1);
        Check.dueDouble("a claim of the other side", x.quota(1), 0.0);
        Check.thrown("makes no sum of this one", Check.ARITHMETIC, () -> x.quota(0));
    }

    private static void quotaFrom0To1() {
        Check.promise(34, "what is awarded to its parties, divided by the sum of the amounts of their claims minus all that is withdrawn");
        ArbitrationFees x = Check.withParties(0, 1, 0);
        x.claim(0, 1, 7);
        x.claim(2, 1, 2);
        x.goOn();
        x.dismiss(0, 1);
        Check.dueDouble("nothing awarded", x.quota(0), 0.0);
        x.award(0, 3);
        Check.dueDouble("three of nine", x.quota(0), 3.0 / 9.0);
        x.withdraw(0, 2);
        Check.dueDouble("three of seven", x.quota(0), 3.0 / 7.0);
        x.undo();
        x.undo();
        x.undo();
        x.award(0, 7);
        x.award(1, 2);
        Check.dueDouble("all", x.quota(0), 1.0);
    }

    private static void quotaOfTheLargest() {
        Check.promise(34, "both converted to double.");
        ArbitrationFees x = Check.withParties(0, 1);
        for (int i = 0; i < 12; i++) {
            x.claim(0, 1, 100000000);
        }
        x.goOn();
        x.award(0, 1);
        Check.dueDouble("a cent of the most", x.quota(0), 1.0 / 1200000000.0);
        x.award(0, 99999999);
        for (int i = 1; i < 12; i++) {
            x.award(i, 100000000 - i / 11);
        }
        Check.dueDouble("all but a cent of the most", x.quota(0), 1199999999.0 / 1200000000.0);
    }
}
