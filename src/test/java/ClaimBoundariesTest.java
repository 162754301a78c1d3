/** The sentences of the terms and of promises 7 to 12 that name a boundary, one method for each. */
public final class ClaimBoundariesTest {
    private static final int LEAST = Check.LEAST;
    private static final int MOST = Check.MOST;
    private static final String FIRST_ONE = "If several exceptions apply, the one that is documented first is thrown.";

    /** award, dismiss or withdraw. */
    private interface Part {
        int of(ArbitrationFees x, int claim, int amount);
    }

    public static void main(String[] args) {
        claims();
        rulings(8, "award", (x, claim, amount) -> x.award(claim, amount), 1);
        rulings(9, "dismiss", (x, claim, amount) -> x.dismiss(claim, amount), 1);
        awards();
        withdrawals();
        numbersOfAClaim();
        reasons();
        Check.end();
    }

    private static ArbitrationFees withClaim(int amount) {
        ArbitrationFees x = Check.withParties(0, 1);
        x.claim(0, 1, amount);
        return x;
    }

    private static ArbitrationFees withTwelve() {
        ArbitrationFees x = Check.withParties(0, 1);
        for (int i = 0; i < 12; i++) {
            x.claim(i % 2, 1 - i % 2, 100 + i);
        }
        return x;
    }

    // ---- promise 7

    private static void claims() {
        noSuchPartyOfAClaim();
        bothOnTheSameSide();
        amountOfAClaim();
        thirteenthClaim();
        numbersOfClaims();
        claimInTheLastStage();
        firstExceptionOfClaim();
        roomForATwelfthClaimAgain();
        claimIsNoDebt();
    }

    private static void noSuchPartyOfAClaim() {
        Check.promise(7, "Throws IndexOutOfBoundsException if one of the parties does not exist");
        ArbitrationFees x = Check.withParties(0, 1);
        Check.eachThrows("claim(n, 1, 5)", Check.INDEX, n -> x.claim(n, 1, 5), -1, 2, 5, 6, LEAST, MOST);
        Check.eachThrows("claim(0, n, 5)", Check.INDEX, n -> x.claim(0, n, 5), -1, 2, 5, 6, LEAST, MOST);
        Check.eachThrows("claim(n, n, 5)", Check.INDEX, n -> x.claim(n, n, 5), -1, 2, LEAST, MOST);
        Check.due("claims", x.account(1), 0);
    }

    private static void bothOnTheSameSide() {
        Check.promise(7, "Throws IllegalArgumentException if both are on the same side");
        ArbitrationFees x = Check.withParties(0, 1, 0, 1);
        Check.thrown("side 0", Check.ARGUMENT, () -> x.claim(0, 2, 5));
        Check.thrown("side 1", Check.ARGUMENT, () -> x.claim(3, 1, 5));
        Check.eachThrows("claim(n, n, 5)", Check.ARGUMENT, n -> x.claim(n, n, 5), 0, 1, 2, 3);
        Check.due("claims", x.account(1), 0);
        Check.due("both ways between the sides", x.claim(3, 2, 5), 0);
        Check.due("both ways between the sides", x.claim(2, 3, 5), 1);
    }

    private static void amountOfAClaim() {
        Check.sentence("A claim is of a party against another one on the other side, with an amount from 1 to 100000000.");
        ArbitrationFees x = Check.withParties(0, 1);
        Check.eachThrows("claim(0, 1, n)", Check.ARGUMENT, n -> x.claim(0, 1, n), 0, -1, 100000001, LEAST, MOST);
        Check.due("one cent", x.claim(0, 1, 1), 0);
        Check.due("the most", x.claim(1, 0, 100000000), 1);
        Check.due("one cent", x.claimed(0, 2), 1);
        Check.due("the most", x.claimed(1, 2), 100000000);
    }

    private static void thirteenthClaim() {
        Check.promise(7, "Throws IllegalStateException if there are 12 claims");
        ArbitrationFees x = withTwelve();
        Check.thrown("a thirteenth claim", Check.STATE, () -> x.claim(0, 1, 5));
        Check.thrown("a thirteenth claim the other way", Check.STATE, () -> x.claim(1, 0, 100000000));
        Check.due("claims", x.account(1), 12);
        x.withdraw(0, 100);
        Check.thrown("a claim that is all withdrawn stays", Check.STATE, () -> x.claim(0, 1, 5));
    }

    private static void numbersOfClaims() {
        Check.sentence("There are at most 12 claims, numbered from 0 in the order in which they were made.");
        ArbitrationFees x = Check.withParties(0, 1);
        for (int i = 0; i < 12; i++) {
            Check.due("claim", x.claim(i % 2, 1 - i % 2, 100 + i), i);
            Check.due("account(1)", x.account(1), i + 1);
        }
        for (int i = 0; i < 12; i++) {
            Check.due("amount of " + i, x.claimed(i, 2), 100 + i);
            Check.due("party of " + i, x.claimed(i, 0), i % 2);
        }
    }

    private static void claimInTheLastStage() {
        Check.promise(7, "Throws IllegalStateException if there are 12 claims, or the stage is 3");
        ArbitrationFees x = Check.withParties(0, 1);
        for (int stage = 0; stage < 3; stage++) {
            Check.due("claim in stage " + stage, x.claim(0, 1, 5), stage);
            x.goOn();
        }
        Check.thrown("claim in stage 3", Check.STATE, () -> x.claim(0, 1, 5));
        x.undo();
        Check.due("claim in stage 2 again", x.claim(0, 1, 5), 3);
        ArbitrationFees full = withTwelve();
        full.goOn();
        full.goOn();
        full.goOn();
        Check.thrown("twelve claims in stage 3", Check.STATE, () -> full.claim(0, 1, 5));
    }

    private static void firstExceptionOfClaim() {
        Check.sentence(FIRST_ONE);
        ArbitrationFees x = withTwelve();
        x.goOn();
        x.goOn();
        x.goOn();
        Check.thrown("no party, wrong amount", Check.INDEX, () -> x.claim(0, 2, 0));
        Check.thrown("no party on both ends", Check.INDEX, () -> x.claim(-1, -1, 0));
        Check.thrown("the same side", Check.ARGUMENT, () -> x.claim(0, 0, 5));
        Check.thrown("a wrong amount", Check.ARGUMENT, () -> x.claim(0, 1, 0));
        Check.thrown("a wrong amount", Check.ARGUMENT, () -> x.claim(0, 1, 100000001));
        Check.thrown("all right but for the state", Check.STATE, () -> x.claim(0, 1, 100000000));
    }

    private static void roomForATwelfthClaimAgain() {
        Check.promise(7, "Throws IllegalStateException if there are 12 claims");
        ArbitrationFees x = withTwelve();
        x.undo();
        Check.due("behind undo", x.claim(1, 0, 7), 11);
        Check.due("its amount", x.claimed(11, 2), 7);
        Check.due("what is left of it", x.claimed(11, 6), 7);
        Check.thrown("a thirteenth", Check.STATE, () -> x.claim(1, 0, 7));
    }

    private static void claimIsNoDebt() {
        Check.sentence("Parts of it are awarded, dismissed or withdrawn; what is left is the rest.");
        ArbitrationFees x = withClaim(100);
        Check.due("all is left", x.claimed(0, 6), 100);
        Check.due("nothing is owed", x.account(3), 0);
        x.goOn();
        x.award(0, 1);
        x.dismiss(0, 2);
        x.withdraw(0, 96);
        Check.due("one cent is left", x.claimed(0, 6), 1);
        Check.due("one cent is left of all", x.account(10), 1);
        Check.due("the last cent", x.dismiss(0, 1), 0);
        Check.refused("award", x, 3, () -> x.award(0, 1));
        Check.refused("dismiss", x, 3, () -> x.dismiss(0, 1));
        Check.refused("withdraw", x, 3, () -> x.withdraw(0, 1));
    }

    // ---- promises 8 to 10

    private static void rulings(int promise, String call, Part part, int refusal) {
        noSuchClaim(promise, call, part);
        amountLessThanOne(promise, call, part);
        firstExceptionOfPart(call, part);
        refusedInStage0(promise, call, part, refusal);
        moreThanIsLeft(promise, call, part);
        allThatIsLeft(promise, call, part);
        inEachLaterStage(promise, call, part);
    }

    private static void noSuchClaim(int promise, String call, Part part) {
        Check.promise(promise, "Throws IndexOutOfBoundsException if there is no such claim");
        ArbitrationFees none = Check.withParties(0, 1);
        ArbitrationFees one = withClaim(100);
        ArbitrationFees twelve = withTwelve();
        Check.eachThrows(call + "(n, 1) without claims", Check.INDEX, n -> part.of(none, n, 1), 0, -1, 11, 12, LEAST, MOST);
        for (int stage = 0; stage <= 3; stage++) {
            Check.eachThrows(call + "(n, 1) of one", Check.INDEX, n -> part.of(one, n, 1), -1, 1, 11, 12, LEAST, MOST);
            Check.eachThrows(call + "(n, 1) of twelve", Check.INDEX, n -> part.of(twelve, n, 1), -1, 12, 13, LEAST, MOST);
            if (stage < 3) {
                one.goOn();
                twelve.goOn();
            }
        }
        Check.thrown("no reason is kept", Check.NONE, () -> one.reason());
    }

    private static void amountLessThanOne(int promise, String call, Part part) {
        Check.promise(promise, "Throws IllegalArgumentException if amount is less than 1");
        ArbitrationFees x = withClaim(100);
        for (int stage = 0; stage <= 3; stage++) {
            Check.eachThrows(call + "(0, n)", Check.ARGUMENT, n -> part.of(x, 0, n), 0, -1, LEAST);
            if (stage < 3) {
                x.goOn();
            }
        }
        Check.due("nothing changed", x.claimed(0, 6), 100);
        Check.thrown("no reason is kept", Check.NONE, () -> x.reason());
    }

    private static void firstExceptionOfPart(String call, Part part) {
        Check.sentence(FIRST_ONE);
        ArbitrationFees x = withClaim(100);
        Check.thrown("no claim, no amount: " + call, Check.INDEX, () -> part.of(x, 1, 0));
        Check.thrown("no claim, too much: " + call, Check.INDEX, () -> part.of(x, -1, 101));
        Check.thrown("no amount in stage 0: " + call, Check.ARGUMENT, () -> part.of(x, 0, 0));
        x.goOn();
        x.goOn();
        Check.thrown("no amount in stage 2: " + call, Check.ARGUMENT, () -> part.of(x, 0, 0));
    }

    private static void refusedInStage0(int promise, String call, Part part, int refusal) {
        Check.promise(promise, "Throws UnsupportedOperationException if it is refused; the reason is then kept");
        ArbitrationFees x = withClaim(100);
        Check.refused(call + " of one cent", x, refusal, () -> part.of(x, 0, 1));
        Check.refused(call + " of all", x, refusal, () -> part.of(x, 0, 100));
        Check.sentence("a reason is kept, the first one that applies: 1 for award and dismiss, the stage is 0");
        Check.refused(call + " of too much", x, refusal, () -> part.of(x, 0, 101));
        Check.refused(call + " of far too much", x, refusal, () -> part.of(x, 0, MOST));
        Check.due("left", x.claimed(0, 6), 100);
        x.goOn();
        Check.due("in stage 1", part.of(x, 0, 1), 99);
        x.undo();
        x.undo();
        Check.refused(call + " in stage 0 again", x, refusal, () -> part.of(x, 0, 1));
    }

    private static void moreThanIsLeft(int promise, String call, Part part) {
        Check.sentence("3 the amount is greater than what is left of the claim");
        ArbitrationFees x = withClaim(100);
        x.goOn();
        Check.refused(call + " of one cent more", x, 3, () -> part.of(x, 0, 101));
        Check.refused(call + " of the most", x, 3, () -> part.of(x, 0, MOST));
        Check.due("left", x.claimed(0, 6), 100);
        x.withdraw(0, 40);
        Check.refused(call + " of more than the rest", x, 3, () -> part.of(x, 0, 61));
        x.award(0, 30);
        Check.refused(call + " of more than the rest", x, 3, () -> part.of(x, 0, 31));
        x.dismiss(0, 30);
        Check.refused(call + " of more than nothing", x, 3, () -> part.of(x, 0, 1));
        Check.promise(promise, "Throws UnsupportedOperationException if it is refused; the reason is then kept");
        Check.due("reason()", x.reason(), 3);
    }

    private static void allThatIsLeft(int promise, String call, Part part) {
        Check.promise(promise, "Returns what is left of the claim.");
        ArbitrationFees x = withClaim(100000000);
        x.goOn();
        Check.due(call + " of all but a cent", part.of(x, 0, 99999999), 1);
        Check.due(call + " of the last cent", part.of(x, 0, 1), 0);
        x.undo();
        x.undo();
        Check.due(call + " of all", part.of(x, 0, 100000000), 0);
        Check.refused(call + " of one cent more", x, 3, () -> part.of(x, 0, 1));
    }

    private static void inEachLaterStage(int promise, String call, Part part) {
        Check.promise(promise, "- amount: the amount, at least 1");
        ArbitrationFees x = withClaim(100);
        for (int stage = 1; stage <= 3; stage++) {
            x.goOn();
            Check.due(call + " in stage " + stage, part.of(x, 0, 1), 100 - stage);
        }
    }

    private static void awards() {
        Check.promise(8, "Awards a part of a claim; the other party owes it to the one whose claim it is.");
        ArbitrationFees x = withClaim(100);
        x.goOn();
        x.dismiss(0, 1);
        x.withdraw(0, 1);
        Check.due("dismissed and withdrawn parts are not owed", x.account(2), 0);
        x.award(0, 1);
        Check.due("one cent is owed", x.owed(1, 0), 1);
        Check.due("and not the other way", x.owed(0, 1), 0);
        x.award(0, 97);
        Check.due("all the rest is owed", x.owed(1, 0), 98);
        Check.due("by one debt", x.account(2), 1);
    }

    private static void withdrawals() {
        Part withdraw = (x, claim, amount) -> x.withdraw(claim, amount);
        noSuchClaim(10, "withdraw", withdraw);
        amountLessThanOne(10, "withdraw", withdraw);
        firstExceptionOfPart("withdraw", withdraw);
        moreThanIsLeft(10, "withdraw", withdraw);
        allThatIsLeft(10, "withdraw", withdraw);
        withdrawInStages0And1();
        withdrawInStages2And3();
    }

    private static void withdrawInStages0And1() {
        Check.sentence("2 for withdraw, the stage is greater than 1");
        ArbitrationFees x = withClaim(100);
        Check.due("in stage 0", x.withdraw(0, 1), 99);
        Check.refused("too much in stage 0", x, 3, () -> x.withdraw(0, 100));
        x.goOn();
        Check.due("in stage 1", x.withdraw(0, 1), 98);
        Check.refused("too much in stage 1", x, 3, () -> x.withdraw(0, 99));
    }

    private static void withdrawInStages2And3() {
        Check.promise(10, "Throws UnsupportedOperationException if it is refused; the reason is then kept");
        ArbitrationFees x = withClaim(100);
        x.goOn();
        for (int stage = 2; stage <= 3; stage++) {
            x.goOn();
            Check.refused("one cent in stage " + stage, x, 2, () -> x.withdraw(0, 1));
            Check.refused("all in stage " + stage, x, 2, () -> x.withdraw(0, 100));
            Check.refused("too much in stage " + stage, x, 2, () -> x.withdraw(0, 101));
        }
        Check.due("withdrawn", x.claimed(0, 5), 0);
    }

    // ---- promises 11 and 12

    private static void numbersOfAClaim() {
        Check.promise(11, "Throws IndexOutOfBoundsException if there is no such claim");
        ArbitrationFees none = Check.withParties(0, 1);
        Check.eachThrows("claimed(n, 0) without claims", Check.INDEX, n -> none.claimed(n, 0), 0, -1, 11, 12, LEAST, MOST);
        ArbitrationFees x = withTwelve();
        Check.eachThrows("claimed(n, 0) of twelve", Check.INDEX, n -> x.claimed(n, 0), -1, 12, 13, LEAST, MOST);
        Check.due("the last one", x.claimed(11, 2), 111);
        Check.promise(11, "Throws IllegalArgumentException if what is not 0 to 6");
        Check.eachThrows("claimed(0, n)", Check.ARGUMENT, n -> x.claimed(0, n), -1, 7, LEAST, MOST);
        Check.due("claimed(0, 0)", x.claimed(0, 0), 0);
        Check.due("claimed(0, 6)", x.claimed(0, 6), 100);
        Check.sentence(FIRST_ONE);
        Check.thrown("claimed(12, 7)", Check.INDEX, () -> x.claimed(12, 7));
        Check.thrown("claimed(-1, -1)", Check.INDEX, () -> x.claimed(-1, -1));
    }

    private static void reasons() {
        noReason();
        eachReason();
        lastReason();
        reasonStays();
        noReasonByOtherExceptions();
    }

    private static void noReason() {
        Check.promise(12, "Throws NoSuchElementException if none was kept");
        ArbitrationFees x = withClaim(100);
        Check.thrown("new", Check.NONE, () -> x.reason());
        x.goOn();
        x.award(0, 1);
        x.settle(1, 0, 1);
        Check.thrown("nothing was refused", Check.NONE, () -> x.reason());
    }

    private static void eachReason() {
        Check.promise(12, "Returns the reason, 1 to 6.");
        ArbitrationFees x = withClaim(100);
        Check.refused("giveBack", x, 6, () -> x.giveBack());
        Check.refused("offset", x, 5, () -> x.offset(0, 1));
        Check.refused("settle", x, 4, () -> x.settle(0, 1, 1));
        Check.refused("withdraw of too much", x, 3, () -> x.withdraw(0, 101));
        Check.refused("award", x, 1, () -> x.award(0, 1));
        x.goOn();
        x.goOn();
        Check.refused("withdraw", x, 2, () -> x.withdraw(0, 1));
    }

    private static void lastReason() {
        Check.promise(12, "Returns the reason that was kept last.");
        ArbitrationFees x = withClaim(100);
        Check.refused("award", x, 1, () -> x.award(0, 1));
        Check.refused("giveBack", x, 6, () -> x.giveBack());
        Check.refused("dismiss", x, 1, () -> x.dismiss(0, 1));
        Check.due("asked again", x.reason(), 1);
    }

    private static void reasonStays() {
        Check.sentence("The object remembers everything except the reason");
        ArbitrationFees x = withClaim(100);
        Check.refused("award", x, 1, () -> x.award(0, 1));
        x.undo();
        Check.due("behind undo", x.reason(), 1);
        x.save();
        x.restore();
        Check.due("behind restore", x.reason(), 1);
        x.clear();
        Check.due("behind clear", x.reason(), 1);
        x.addParty(0, 1);
        Check.due("behind a change", x.reason(), 1);
    }

    private static void noReasonByOtherExceptions() {
        Check.promise(12, "Returns the reason that was kept last.");
        ArbitrationFees x = withClaim(100);
        Check.thrown("award", Check.INDEX, () -> x.award(1, 1));
        Check.thrown("dismiss", Check.ARGUMENT, () -> x.dismiss(0, 0));
        Check.thrown("settle", Check.ARGUMENT, () -> x.settle(0, 1, 0));
        Check.thrown("offset", Check.ARGUMENT, () -> x.offset(0, 0));
        Check.thrown("payFor", Check.STATE, () -> x.payFor(0, 1));
        Check.thrown("restore", Check.STATE, () -> x.restore());
        Check.thrown("no reason", Check.NONE, () -> x.reason());
    }
}
