/** The sentences of the terms and of promises 17 to 21 that name a boundary, one method for each. */
public final class DepositBoundariesTest {
    private static final int LEAST = Check.LEAST;
    private static final int MOST = Check.MOST;
    private static final String FIRST_ONE = "If several exceptions apply, the one that is documented first is thrown.";

    public static void main(String[] args) {
        calls();
        payments();
        paymentsForOthers();
        takingFees();
        givingBack();
        Check.end();
    }

    /** Two parties that bear 2500 each. */
    private static ArbitrationFees withFees() {
        ArbitrationFees x = Check.withParties(0, 1);
        x.setTier(0, 0);
        x.claim(0, 1, 100);
        return x;
    }

    private static void goTo(ArbitrationFees x, int stage) {
        while (x.account(9) < stage) {
            x.goOn();
        }
    }

    // ---- promise 17

    private static void calls() {
        rangeOfCall();
        halfRoundedDown();
        callOfSidesWithoutParties();
        callOfAParty();
        amountOfTheEntryOfACall();
        callsBeyondAnInt();
    }

    private static void rangeOfCall() {
        Check.promise(17, "Throws IllegalArgumentException if the amount is out of range");
        ArbitrationFees x = Check.withParties(0, 1);
        Check.eachThrows("call", Check.ARGUMENT, n -> x.call(n), 0, -1, 100000001, LEAST, MOST);
        Check.thrown("no entry", Check.NONE, () -> x.entry(0, true));
        Check.due("one cent", x.call(1), 1);
        Check.due("the most", x.call(100000000), 100000000);
        ArbitrationFees none = new ArbitrationFees();
        Check.eachThrows("call of nobody", Check.ARGUMENT, n -> none.call(n), 0, 100000001);
    }

    private static void halfRoundedDown() {
        Check.sentence("A call asks for an amount: one half of it, rounded down, from side 1, and the rest from side 0");
        int[][] due = {{1, 1, 0}, {2, 1, 1}, {3, 2, 1}, {99999999, 50000000, 49999999}, {100000000, 50000000, 50000000}};
        for (int[] row : due) {
            ArbitrationFees x = Check.withParties(1, 0);
            Check.due("call(" + row[0] + ")", x.call(row[0]), row[0]);
            Check.due("from side 0", x.party(1, 2), row[1]);
            Check.due("from side 1", x.party(0, 2), row[2]);
        }
    }

    private static void callOfSidesWithoutParties() {
        Check.sentence("what is asked from a side without parties is not called.");
        ArbitrationFees none = new ArbitrationFees();
        Check.due("of nobody", none.call(100000000), 0);
        ArbitrationFees side0 = Check.withParties(0);
        Check.due("one cent of side 0 alone", side0.call(1), 1);
        Check.due("three cents of side 0 alone", side0.call(3), 2);
        Check.due("called", side0.party(0, 2), 3);
        ArbitrationFees side1 = Check.withParties(1);
        Check.due("one cent of side 1 alone", side1.call(1), 0);
        Check.due("three cents of side 1 alone", side1.call(3), 1);
        Check.due("called", side1.party(0, 2), 1);
        side1.addParty(0, 1);
        Check.due("nothing is called afterwards", side1.party(1, 2), 0);
    }

    private static void callOfAParty() {
        Check.promise(17, "Returns what is called by that from all parties together.");
        ArbitrationFees x = Check.withParties(0, 1);
        x.call(100);
        Check.due("not what was called before", x.call(7), 7);
        Check.due("short by all of it", x.account(11), 107);
    }

    private static void amountOfTheEntryOfACall() {
        Check.sentence("What is called from all parties together is the amount of the entry of a call");
        ArbitrationFees x = new ArbitrationFees();
        x.call(101);
        x.addParty(1, 1);
        x.call(101);
        x.addParty(0, 1);
        x.call(101);
        long[] due = {0, 50, 101};
        for (int i = 0; i < 3; i++) {
            Check.due("kind of " + i, x.entry(i, false), 4);
            Check.due("amount of " + i, x.entry(i, true), due[i]);
        }
    }

    private static void callsBeyondAnInt() {
        Check.promise(17, "Returns what is called by that from all parties together.");
        ArbitrationFees x = Check.withParties(0);
        for (int i = 1; i <= 60; i++) {
            Check.due("call", x.call(100000000), 50000000);
            Check.due("called in all", x.party(0, 2), i * 50000000L);
        }
        Check.due("short by more than an int", x.party(0, 8), 3000000000L);
        Check.due("all are short by", x.account(11), 3000000000L);
        x.pay(0, 100000000);
        Check.due("short by less", x.party(0, 8), 2900000000L);
    }

    // ---- promise 18

    private static void payments() {
        noSuchPartyOfAPayment();
        rangeOfPayment();
        firstExceptionOfPay();
        moreThanIsCalled();
        paidBeyondAnInt();
    }

    private static void noSuchPartyOfAPayment() {
        Check.promise(18, "Throws IndexOutOfBoundsException if there is no such party");
        ArbitrationFees x = Check.withParties(0, 1);
        Check.eachThrows("pay(n, 5)", Check.INDEX, n -> x.pay(n, 5), -1, 2, 5, 6, LEAST, MOST);
        Check.due("paid", x.account(4), 0);
    }

    private static void rangeOfPayment() {
        Check.promise(18, "Throws IllegalArgumentException if the amount is out of range");
        ArbitrationFees x = Check.withParties(0, 1);
        Check.eachThrows("pay(0, n)", Check.ARGUMENT, n -> x.pay(0, n), 0, -1, 100000001, LEAST, MOST);
        Check.due("paid", x.account(4), 0);
        Check.due("one cent", x.pay(0, 1), 1);
        Check.due("the most", x.pay(0, 100000000), 100000001);
    }

    private static void firstExceptionOfPay() {
        Check.sentence(FIRST_ONE);
        ArbitrationFees x = Check.withParties(0, 1);
        Check.thrown("pay(2, 0)", Check.INDEX, () -> x.pay(2, 0));
        Check.thrown("pay(-1, 100000001)", Check.INDEX, () -> x.pay(-1, 100000001));
    }

    private static void moreThanIsCalled() {
        Check.promise(18, "Lets a party pay a deposit, which may be more than is called.");
        ArbitrationFees x = Check.withParties(0, 1);
        Check.due("nothing is called", x.pay(0, 1), 1);
        x.call(1000);
        Check.due("just what is called", x.pay(0, 499), 500);
        Check.due("a cent more", x.pay(0, 1), 501);
        Check.due("not short", x.party(0, 8), 0);
    }

    private static void paidBeyondAnInt() {
        Check.promise(18, "Returns what is held for it.");
        ArbitrationFees x = Check.withParties(0, 1);
        for (int i = 1; i <= 30; i++) {
            Check.due("pay", x.pay(0, 100000000), i * 100000000L);
        }
        Check.due("paid", x.party(0, 3), 3000000000L);
        Check.due("held", x.party(0, 6), 3000000000L);
        Check.due("all that is paid", x.account(4), 3000000000L);
        Check.due("all that is held", x.account(7), 3000000000L);
        goTo(x, 3);
        Check.due("giveBack()", x.giveBack(), 3000000000L);
        Check.due("returned", x.party(0, 5), 3000000000L);
        Check.due("all that is returned", x.account(6), 3000000000L);
        Check.due("the entry", x.entry(15, true), 3000000000L);
    }

    // ---- promise 19

    private static void paymentsForOthers() {
        noSuchPartyOfAPaymentForAnother();
        paymentForItself();
        otherOneIsNotShort();
        firstExceptionOfPayFor();
        paymentOfOneCentForAnother();
        paymentForAnotherIsAnEntry();
        paymentForAnotherIsADebt();
    }

    private static void noSuchPartyOfAPaymentForAnother() {
        Check.promise(19, "Throws IndexOutOfBoundsException if one of the parties does not exist");
        ArbitrationFees x = Check.withParties(0, 1);
        x.call(1000);
        Check.eachThrows("payFor(n, 1)", Check.INDEX, n -> x.payFor(n, 1), -1, 2, 5, 6, LEAST, MOST);
        Check.eachThrows("payFor(0, n)", Check.INDEX, n -> x.payFor(0, n), -1, 2, 5, 6, LEAST, MOST);
        Check.due("short", x.account(11), 1000);
    }

    private static void paymentForItself() {
        Check.promise(19, "Throws IllegalArgumentException if both are the same");
        ArbitrationFees x = Check.withParties(0, 1);
        x.call(1000);
        Check.eachThrows("payFor(n, n)", Check.ARGUMENT, n -> x.payFor(n, n), 0, 1);
        Check.due("short", x.account(11), 1000);
    }

    private static void otherOneIsNotShort() {
        Check.promise(19, "Throws IllegalStateException if the other one is not short");
        ArbitrationFees x = Check.withParties(0, 1);
        Check.thrown("nothing is called", Check.STATE, () -> x.payFor(0, 1));
        x.call(1000);
        x.pay(1, 500);
        Check.thrown("just what is called is paid", Check.STATE, () -> x.payFor(0, 1));
        x.pay(1, 1);
        Check.thrown("more than is called is paid", Check.STATE, () -> x.payFor(0, 1));
        Check.due("the one that pays may be short", x.party(0, 8), 500);
        Check.due("and the other one may pay for it", x.payFor(1, 0), 500);
        Check.thrown("nor is it short any more", Check.STATE, () -> x.payFor(1, 0));
    }

    private static void firstExceptionOfPayFor() {
        Check.sentence(FIRST_ONE);
        ArbitrationFees x = Check.withParties(0, 1);
        Check.thrown("no party, and both the same", Check.INDEX, () -> x.payFor(2, 2));
        Check.thrown("no party, and both the same", Check.INDEX, () -> x.payFor(-1, -1));
        Check.thrown("both the same, and not short", Check.ARGUMENT, () -> x.payFor(1, 1));
    }

    private static void paymentOfOneCentForAnother() {
        Check.promise(19, "Lets a party pay all that another one is short by; the other one owes it to this one then.");
        ArbitrationFees x = Check.withParties(0, 1, 1);
        x.call(1000);
        x.pay(1, 249);
        Check.due("one cent", x.payFor(0, 1), 1);
        Check.due("the other one owes it", x.owed(1, 0), 1);
        Check.due("and not this one", x.owed(0, 1), 0);
        Check.due("paid for the other one", x.party(1, 3), 250);
        Check.due("nothing paid by this one for itself", x.party(0, 3), 0);
        Check.due("all, on the same side", x.payFor(1, 2), 250);
        Check.due("owed on the same side", x.owed(2, 1), 250);
    }

    private static void paymentForAnotherIsAnEntry() {
        Check.sentence("Payments of deposits for another party are entries of the kind 5.");
        ArbitrationFees x = Check.withParties(0, 1);
        x.call(1000);
        x.payFor(0, 1);
        Check.due("kind", x.entry(1, false), 5);
        Check.due("amount", x.entry(1, true), 500);
        Check.thrown("one entry alone", Check.NONE, () -> x.entry(2, true));
    }

    private static void paymentForAnotherIsADebt() {
        Check.sentence("the principal of the debt that there is grows, or there is a new debt, which is the last one.");
        ArbitrationFees x = Check.withParties(0, 1, 1);
        x.call(4);
        x.payFor(0, 1);
        x.payFor(0, 2);
        Check.due("two debts", x.account(2), 2);
        x.call(4);
        x.payFor(0, 1);
        Check.due("the first one has grown", x.debt(0, 2), 2);
        Check.due("still two debts", x.account(2), 2);
    }

    // ---- promise 20

    private static void takingFees() {
        nothingToTake();
        notMoreThanIsHeld();
        shareJustTaken();
        noLongerTaken();
        negativeEntry();
        takenAndNoLongerTakenTogether();
        takenAfterAReturn();
    }

    private static void nothingToTake() {
        Check.promise(20, "Returns what is taken by that from all parties together, less what is no longer taken.");
        ArbitrationFees none = new ArbitrationFees();
        Check.due("without parties", none.takeFees(), 0);
        Check.due("kind", none.entry(0, false), 6);
        Check.due("amount", none.entry(0, true), 0);
        ArbitrationFees x = Check.withParties(0, 1);
        x.pay(0, 100);
        Check.due("without claims", x.takeFees(), 0);
        Check.due("held", x.party(0, 6), 100);
    }

    private static void notMoreThanIsHeld() {
        Check.sentence("if its share is more than what is taken, the difference, but not more than what is held, is taken");
        ArbitrationFees x = withFees();
        Check.due("nothing is held", x.takeFees(), 0);
        x.pay(0, 2499);
        Check.due("a cent less than the share", x.takeFees(), 2499);
        Check.due("nothing is held", x.party(0, 6), 0);
        x.pay(0, 1);
        Check.due("the last cent", x.takeFees(), 1);
        x.pay(0, 1);
        Check.due("a cent more than the share", x.takeFees(), 0);
        Check.due("a cent is held", x.party(0, 6), 1);
        x.pay(1, 2500);
        Check.due("just the share", x.takeFees(), 2500);
        Check.due("nothing is held", x.party(1, 6), 0);
    }

    private static void shareJustTaken() {
        Check.sentence("if its share is more than what is taken");
        ArbitrationFees x = withFees();
        x.pay(0, 9000);
        x.takeFees();
        Check.due("the share is taken", x.party(0, 4), 2500);
        Check.due("nothing more, nothing less", x.takeFees(), 0);
        Check.due("the share is still taken", x.party(0, 4), 2500);
        Check.due("the rest is held", x.party(0, 6), 6500);
    }

    private static void noLongerTaken() {
        Check.sentence("if it is less, the difference is no longer taken, and held again.");
        ArbitrationFees x = withFees();
        x.pay(1, 2500);
        x.takeFees();
        x.goOn();
        x.award(0, 1);
        x.dismiss(0, 4);
        // side 1 bears 1000 of 5000 now
        Check.due("takeFees()", x.takeFees(), -1500);
        Check.due("taken", x.party(1, 4), 1000);
        Check.due("held again", x.party(1, 6), 1500);
        Check.due("paid stays", x.party(1, 3), 2500);
        x.dismiss(0, 95);
        x.undo();
        x.undo();
        x.undo();
        x.undo();
        x.dismiss(0, 1);
        Check.due("all of it is no longer taken", x.takeFees(), -2500);
        Check.due("taken", x.party(1, 4), 0);
        Check.due("held again", x.party(1, 6), 2500);
    }

    private static void negativeEntry() {
        Check.sentence("6 taken, which can be negative");
        ArbitrationFees x = withFees();
        x.pay(1, 2500);
        x.takeFees();
        x.goOn();
        x.dismiss(0, 1);
        x.takeFees();
        Check.due("kind", x.entry(3, false), 6);
        Check.due("amount", x.entry(3, true), -2500);
    }

    private static void takenAndNoLongerTakenTogether() {
        Check.promise(20, "Returns what is taken by that from all parties together, less what is no longer taken.");
        ArbitrationFees x = withFees();
        x.pay(0, 5000);
        x.pay(1, 5000);
        Check.due("both", x.takeFees(), 5000);
        x.goOn();
        x.dismiss(0, 1);
        Check.due("2500 more of one, 2500 less of the other one", x.takeFees(), 0);
        Check.due("taken from 0", x.party(0, 4), 5000);
        Check.due("taken from 1", x.party(1, 4), 0);
        Check.due("the entry", x.entry(4, true), 0);
    }

    private static void takenAfterAReturn() {
        Check.sentence("What is held for a party is what is paid minus what is taken and what is returned.");
        ArbitrationFees x = withFees();
        x.pay(0, 3000);
        goTo(x, 3);
        x.giveBack();
        Check.due("held", x.party(0, 6), 2500);
        x.dismiss(0, 100);
        // the share is 5000 now, but 500 are returned
        Check.due("takeFees()", x.takeFees(), 2500);
        Check.due("held", x.party(0, 6), 0);
        Check.due("returned stays", x.party(0, 5), 500);
    }

    // ---- promise 21

    private static void givingBack() {
        refusedBeforeStage3();
        nothingToGiveBack();
        heldBeyondTheDifference();
        shareBelowTaken();
        giveBackWithoutClaims();
    }

    private static void refusedBeforeStage3() {
        Check.promise(21, "Throws UnsupportedOperationException if it is refused; the reason is then kept");
        ArbitrationFees x = withFees();
        x.pay(0, 9000);
        for (int stage = 0; stage <= 2; stage++) {
            Check.refused("giveBack in stage " + stage, x, 6, () -> x.giveBack());
            x.goOn();
        }
        Check.due("nothing is returned", x.account(6), 0);
        Check.due("in stage 3", x.giveBack(), 6500);
        x.undo();
        x.undo();
        Check.refused("giveBack in stage 2 again", x, 6, () -> x.giveBack());
    }

    private static void nothingToGiveBack() {
        Check.promise(21, "Returns what is returned by that to all parties together.");
        ArbitrationFees none = new ArbitrationFees();
        goTo(none, 3);
        Check.due("without parties", none.giveBack(), 0);
        Check.due("kind", none.entry(0, false), 7);
        Check.due("amount", none.entry(0, true), 0);
        ArbitrationFees x = withFees();
        goTo(x, 3);
        Check.due("nothing is held", x.giveBack(), 0);
        Check.due("nothing is returned", x.party(0, 5), 0);
    }

    private static void heldBeyondTheDifference() {
        Check.sentence("what is held beyond what its share is more than what is taken is returned.");
        ArbitrationFees x = withFees();
        goTo(x, 3);
        x.pay(0, 2499);
        Check.due("less than the share", x.giveBack(), 0);
        x.pay(0, 1);
        Check.due("just the share", x.giveBack(), 0);
        x.pay(0, 1);
        Check.due("a cent more", x.giveBack(), 1);
        Check.due("held", x.party(0, 6), 2500);
        x.takeFees();
        x.pay(0, 7);
        Check.due("the share is taken: all that is held", x.giveBack(), 7);
        Check.due("held", x.party(0, 6), 0);
        Check.due("returned in all", x.party(0, 5), 8);
    }

    private static void shareBelowTaken() {
        Check.sentence("For giving back, a share below what is taken counts as no difference.");
        ArbitrationFees x = withFees();
        x.pay(1, 2600);
        x.takeFees();
        goTo(x, 3);
        x.dismiss(0, 1);
        Check.due("the share", x.party(1, 7), 0);
        Check.due("giveBack()", x.giveBack(), 100);
        Check.due("taken stays", x.party(1, 4), 2500);
        Check.due("held", x.party(1, 6), 0);
        Check.due("nothing the second time", x.giveBack(), 0);
    }

    private static void giveBackWithoutClaims() {
        Check.sentence("what is held beyond what its share is more than what is taken is returned.");
        ArbitrationFees x = Check.withParties(0, 1);
        x.pay(0, 1);
        x.pay(1, 100000000);
        goTo(x, 3);
        Check.due("all goes back", x.giveBack(), 100000001);
        Check.due("held", x.account(7), 0);
        Check.due("paid stays", x.account(4), 100000001);
        Check.due("the entry", x.entry(2, true), 100000001);
    }
}
