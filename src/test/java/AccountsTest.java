/** Promises 32 to 34. */
public final class AccountsTest {
    public static void main(String[] args) {
        promise32Account();
        promise33Entry();
        promise33Kinds();
        promise34Quota();
        Check.end();
    }

    private static void promise32Account() {
        ArbitrationFees x = Check.withParties(0, 1, 0);
        x.setTier(0, 0);
        x.goOn();
        Check.owe(x, 1, 0, 9000);
        x.claim(1, 2, 700);
        x.withdraw(1, 100);
        x.pass(10);
        x.call(8000);
        x.pay(0, 5000);
        x.pay(1, 9000);
        x.takeFees();
        x.goOn();
        x.goOn();
        x.giveBack();
        // side 1 has lost all and bears the 5000; what the others paid goes back
        long[] due = {3, 2, 1, 9010, 14000, 5000, 9000, 0, 10, 3, 600, 2000};
        for (int i = 0; i <= 11; i++) {
            Check.due("account(" + i + ")", x.account(i), due[i]);
        }
        x.pay(2, 300);
        Check.due("held", x.account(7), 300);
        Check.due("short", x.account(11), 1700);
        Check.thrown("account(-1)", Check.ARGUMENT, () -> x.account(-1));
        Check.thrown("account(12)", Check.ARGUMENT, () -> x.account(12));
    }

    private static void promise33Entry() {
        ArbitrationFees x = Check.withParties(0, 1);
        for (int i = 1; i <= 16; i++) {
            x.pay(0, i);
            Check.due("the latest", x.entry(i - 1, true), i);
        }
        Check.due("the oldest", x.entry(0, true), 1);
        x.call(100);
        Check.due("the oldest then", x.entry(0, true), 2);
        Check.due("the latest", x.entry(15, true), 100);
        Check.due("the kind of the latest", x.entry(15, false), 4);
        Check.due("the kind before", x.entry(14, false), 5);
        Check.thrown("entry(16)", Check.NONE, () -> x.entry(16, true));
        Check.thrown("entry(-1)", Check.NONE, () -> x.entry(-1, false));
        for (int i = 0; i < 20; i++) {
            x.pay(1, 1000 + i);
        }
        for (int i = 0; i < 16; i++) {
            Check.due("entry(" + i + ")", x.entry(i, true), 1004 + i);
        }
        x.undo();
        Check.due("the journal is remembered", x.entry(0, true), 1003);
        for (int i = 0; i < 16; i++) {
            if (i % 3 == 0) {
                x.call(7);
            } else {
                x.pay(0, 7);
            }
        }
        for (int i = 0; i < 16; i++) {
            Check.due("kind of " + i, x.entry(i, false), i % 3 == 0 ? 4 : 5);
        }
        x.takeFees();
        for (int i = 0; i < 15; i++) {
            Check.due("kind of " + i, x.entry(i, false), (i + 1) % 3 == 0 ? 4 : 5);
        }
        Check.due("the latest kind", x.entry(15, false), 6);
        x.undo();
        for (int i = 0; i < 16; i++) {
            Check.due("kind of " + i + " after undo", x.entry(i, false), i % 3 == 0 ? 4 : 5);
        }
    }

    private static void promise33Kinds() {
        ArbitrationFees x = Check.withParties(0, 1);
        x.claim(0, 1, 100);
        x.claim(1, 0, 100);
        x.goOn();
        x.award(0, 50);
        x.award(1, 30);
        x.dismiss(0, 7);
        x.withdraw(0, 6);
        x.call(5);
        x.pay(0, 4);
        x.payFor(0, 1);
        x.takeFees();
        x.settle(1, 0, 3);
        x.offset(0, 1);
        x.clearRings();
        x.goOn();
        x.goOn();
        x.giveBack();
        int[] kinds = {1, 1, 2, 3, 4, 5, 5, 6, 8, 9, 10, 7};
        long[] amounts = {50, 30, 7, 6, 5, 4, 2, 6, 3, 30, 0, 0};
        for (int i = 0; i < kinds.length; i++) {
            Check.due("kind of " + i, x.entry(i, false), kinds[i]);
            Check.due("amount of " + i, x.entry(i, true), amounts[i]);
        }
        Check.thrown("a refusal", Check.REFUSED, () -> x.settle(1, 0, 1000));
        Check.thrown("a refusal makes no entry", Check.NONE, () -> x.entry(12, false));
    }

    private static void promise34Quota() {
        ArbitrationFees x = Check.withParties(0, 1);
        Check.thrown("quota(-1)", Check.INDEX, () -> x.quota(-1));
        Check.thrown("quota(2)", Check.INDEX, () -> x.quota(2));
        Check.thrown("no claims", Check.ARITHMETIC, () -> x.quota(0));
        x.claim(0, 1, 100);
        x.claim(0, 1, 250);
        Check.dueDouble("nothing awarded", x.quota(0), 0.0);
        Check.thrown("no claims of side 1", Check.ARITHMETIC, () -> x.quota(1));
        x.claim(1, 0, 70);
        x.goOn();
        x.award(0, 100);
        x.award(2, 7);
        x.dismiss(1, 5);
        x.withdraw(1, 50);
        Check.dueDouble("quota(0)", x.quota(0), 100.0 / 300.0);
        Check.dueDouble("quota(1)", x.quota(1), 7.0 / 70.0);
        x.withdraw(2, 63);
        Check.dueDouble("the whole", x.quota(1), 1.0);
        x.claim(1, 0, 10);
        x.undo();
        x.undo();
        Check.dueDouble("undone", x.quota(1), 7.0 / 70.0);
        ArbitrationFees y = Check.withParties(0, 1);
        y.claim(0, 1, 100);
        y.withdraw(0, 100);
        Check.thrown("all withdrawn", Check.ARITHMETIC, () -> y.quota(0));
    }
}
