/** The sentences of the terms and of promises 13 to 16 that name a boundary, one method for each. */
public final class FeeBoundariesTest {
    private static final int LEAST = Check.LEAST;
    private static final int MOST = Check.MOST;
    private static final String FIRST_ONE = "If several exceptions apply, the one that is documented first is thrown.";

    public static void main(String[] args) {
        sumWithoutClaims();
        sumOfTheMost();
        sumWhenAllIsWithdrawn();
        sumWhenAllIsDecided();
        noSuchTier();
        edgesOfTiers();
        eachPartRoundedDown();
        fixedFee();
        fixedFeeWhenAllIsWithdrawn();
        fixedFeeOfWouldBe();
        rangeOfWouldBe();
        wouldBeLeavesAll();
        noSuchSide();
        noSuchNumberOfASide();
        firstExceptionOfSide();
        lostByBothSides();
        halvesIfNothingIsLost();
        allForOneSide();
        missingCentForSide0();
        noMissingCent();
        largestShares();
        sideWithoutParties();
        Check.end();
    }

    private static ArbitrationFees withTiers(int rate) {
        ArbitrationFees x = Check.withParties(0, 1);
        for (int i = 0; i < 4; i++) {
            x.setTier(i, rate);
        }
        return x;
    }

    private static void sumWithoutClaims() {
        Check.promise(13, "Returns the sum in dispute.");
        Check.due("new", new ArbitrationFees().inDispute(), 0);
        Check.due("with parties", Check.withParties(0, 1).inDispute(), 0);
    }

    private static void sumOfTheMost() {
        Check.sentence("The sum in dispute is the sum of the amounts of all claims minus all that is withdrawn.");
        ArbitrationFees x = Check.withParties(0, 1);
        for (int i = 1; i <= 12; i++) {
            x.claim(i % 2, 1 - i % 2, 100000000);
            Check.due("inDispute()", x.inDispute(), i * 100000000L);
        }
        x.withdraw(11, 1);
        Check.due("inDispute()", x.inDispute(), 1199999999);
    }

    private static void sumWhenAllIsWithdrawn() {
        Check.sentence("minus all that is withdrawn.");
        ArbitrationFees x = Check.withParties(0, 1);
        x.claim(0, 1, 100);
        x.claim(1, 0, 7);
        x.withdraw(0, 99);
        x.withdraw(1, 7);
        Check.due("all but a cent", x.inDispute(), 1);
        x.withdraw(0, 1);
        Check.due("all", x.inDispute(), 0);
    }

    private static void sumWhenAllIsDecided() {
        Check.sentence("The sum in dispute is the sum of the amounts of all claims minus all that is withdrawn.");
        ArbitrationFees x = Check.withParties(0, 1);
        x.claim(0, 1, 100);
        x.goOn();
        x.award(0, 60);
        x.dismiss(0, 40);
        Check.due("what is awarded and dismissed stays in dispute", x.inDispute(), 100);
    }

    private static void noSuchTier() {
        Check.promise(14, "Throws IndexOutOfBoundsException if there is no such tier, and it is not -1");
        ArbitrationFees x = Check.withParties(0, 1);
        Check.eachThrows("fees", Check.INDEX, n -> x.fees(n), -2, 4, 5, LEAST, MOST);
        x.claim(0, 1, 100000000);
        Check.eachThrows("fees", Check.INDEX, n -> x.fees(n), -2, 4, 5, LEAST, MOST);
        Check.due("fees(0)", x.fees(0), 100000);
        Check.due("fees(3)", x.fees(3), 800000);
        Check.due("fees(-1)", x.fees(-1), 1480000);
    }

    /** At a rate of 10 percent, the fees of the tiers just below, at and above an edge. */
    private static void edgesOfTiers() {
        Check.sentence("of the part of the sum up to 1000000, the fee is the rate of tier 0; of the part above that");
        feesAre(9, 0, 0, 0, 0);
        feesAre(10, 1, 0, 0, 0);
        feesAre(999999, 99999, 0, 0, 0);
        feesAre(1000000, 100000, 0, 0, 0);
        feesAre(1000009, 100000, 0, 0, 0);
        feesAre(1000010, 100000, 1, 0, 0);
        Check.sentence("of the part above that and up to 5000000, that of tier 1");
        feesAre(4999999, 100000, 399999, 0, 0);
        feesAre(5000000, 100000, 400000, 0, 0);
        feesAre(5000009, 100000, 400000, 0, 0);
        feesAre(5000010, 100000, 400000, 1, 0);
        Check.sentence("of the part above that and up to 20000000, that of tier 2; and of what is above that, that of tier 3.");
        feesAre(19999999, 100000, 400000, 1499999, 0);
        feesAre(20000000, 100000, 400000, 1500000, 0);
        feesAre(20000009, 100000, 400000, 1500000, 0);
        feesAre(20000010, 100000, 400000, 1500000, 1);
        feesAre(100000000, 100000, 400000, 1500000, 8000000);
    }

    private static void feesAre(int sum, long... due) {
        ArbitrationFees x = withTiers(1000);
        x.claim(0, 1, sum);
        long all = 5000;
        for (int tier = 0; tier < 4; tier++) {
            Check.due("fees(" + tier + ") of " + sum, x.fees(tier), due[tier]);
            all += due[tier];
        }
        Check.due("fees(-1) of " + sum, x.fees(-1), all);
        Check.due("wouldBe of " + sum, x.wouldBe(sum), all);
    }

    private static void eachPartRoundedDown() {
        Check.sentence("The fee of each part is rounded down");
        ArbitrationFees x = withTiers(1);
        x.claim(0, 1, 1009999);
        // 100 of 1000000; 0.9999 of what is above
        Check.due("fees(1)", x.fees(1), 0);
        Check.due("fees(-1)", x.fees(-1), 5100);
        x.setTier(0, 1999);
        x.setTier(1, 1999);
        x.withdraw(0, 9998);
        // 1000000 * 0.1999 is whole, and 1 * 0.1999 is nothing
        Check.due("fees(0)", x.fees(0), 199900);
        Check.due("fees(1)", x.fees(1), 0);
        x.withdraw(0, 2);
        // 999999 * 0.1999 = 199899.8001
        Check.due("fees(0)", x.fees(0), 199899);
        Check.due("fees(-1)", x.fees(-1), 204899);
    }

    private static void fixedFee() {
        Check.sentence("and 5000 are added if there is a claim.");
        ArbitrationFees x = Check.withParties(0, 1);
        Check.due("without claims", x.fees(-1), 0);
        x.claim(0, 1, 1);
        Check.due("of one cent", x.fees(-1), 5000);
        Check.due("not in a tier", x.fees(0), 0);
        x.claim(0, 1, 9);
        Check.due("once for two claims", x.fees(-1), 5001);
        x.undo();
        x.undo();
        Check.due("without claims again", x.fees(-1), 0);
    }

    private static void fixedFeeWhenAllIsWithdrawn() {
        Check.sentence("5000 are added also when all claims are withdrawn");
        ArbitrationFees x = Check.withParties(0, 1);
        x.claim(0, 1, 100);
        x.claim(1, 0, 100);
        x.withdraw(0, 100);
        x.withdraw(1, 100);
        Check.due("fees(-1)", x.fees(-1), 5000);
        for (int tier = 0; tier < 4; tier++) {
            Check.due("fees(" + tier + ")", x.fees(tier), 0);
        }
        Check.due("share of side 0", x.side(0, 1), 2500);
    }

    private static void fixedFeeOfWouldBe() {
        Check.sentence("and for wouldBe whether there is a claim or not.");
        ArbitrationFees x = withTiers(0);
        Check.due("without claims", x.wouldBe(1), 5000);
        x.claim(0, 1, 100);
        Check.due("with a claim", x.wouldBe(1), 5000);
    }

    private static void rangeOfWouldBe() {
        Check.promise(15, "Throws IllegalArgumentException if the sum is out of range");
        ArbitrationFees x = new ArbitrationFees();
        Check.eachThrows("wouldBe", Check.ARGUMENT, n -> x.wouldBe(n), 0, -1, 1200000001, LEAST, MOST);
        Check.due("wouldBe(1)", x.wouldBe(1), 5000);
        Check.due("wouldBe(1200000000)", x.wouldBe(1200000000), 100000 + 200000 + 375000 + 11800000 + 5000);
        Check.due("wouldBe(1199999900)", x.wouldBe(1199999900), 100000 + 200000 + 375000 + 11799999 + 5000);
        Check.due("wouldBe(1199999999)", x.wouldBe(1199999999), 100000 + 200000 + 375000 + 11799999 + 5000);
    }

    private static void wouldBeLeavesAll() {
        Check.sentence("Methods whose documentation does not mention a change only answer a question.");
        ArbitrationFees x = Check.withParties(0, 1);
        x.claim(0, 1, 100);
        x.wouldBe(1200000000);
        Check.due("inDispute()", x.inDispute(), 100);
        Check.due("fees(-1)", x.fees(-1), 5010);
        Check.due("undo()", x.undo(), 2);
    }

    private static void noSuchSide() {
        Check.promise(16, "Throws IndexOutOfBoundsException if there is no such side");
        ArbitrationFees x = Check.withParties(0, 1);
        Check.eachThrows("side(n, 0)", Check.INDEX, n -> x.side(n, 0), -1, 2, LEAST, MOST);
    }

    private static void noSuchNumberOfASide() {
        Check.promise(16, "Throws IllegalArgumentException if what is not 0 to 3");
        ArbitrationFees x = Check.withParties(0, 1);
        Check.eachThrows("side(0, n)", Check.ARGUMENT, n -> x.side(0, n), -1, 4, LEAST, MOST);
        Check.due("side(0, 0)", x.side(0, 0), 0);
        Check.due("side(0, 3)", x.side(0, 3), 1);
    }

    private static void firstExceptionOfSide() {
        Check.sentence(FIRST_ONE);
        ArbitrationFees x = Check.withParties(0, 1);
        Check.thrown("side(2, 4)", Check.INDEX, () -> x.side(2, 4));
        Check.thrown("side(-1, -1)", Check.INDEX, () -> x.side(-1, -1));
    }

    private static void lostByBothSides() {
        Check.sentence("What a side has lost is what is dismissed of the claims of its parties, plus what is awarded against them.");
        ArbitrationFees x = Check.withParties(0, 1);
        x.claim(0, 1, 100);
        x.goOn();
        Check.due("nothing by side 0", x.side(0, 0), 0);
        Check.due("nothing by side 1", x.side(1, 0), 0);
        x.withdraw(0, 10);
        Check.due("nothing by what is withdrawn", x.side(0, 0) + x.side(1, 0), 0);
        x.dismiss(0, 1);
        Check.due("by side 0", x.side(0, 0), 1);
        Check.due("by side 1", x.side(1, 0), 0);
        x.award(0, 2);
        Check.due("by side 0", x.side(0, 0), 1);
        Check.due("by side 1", x.side(1, 0), 2);
    }

    private static void sharesAre(ArbitrationFees x, long ofSide0, long ofSide1) {
        Check.due("share of side 0", x.side(0, 1), ofSide0);
        Check.due("share of side 1", x.side(1, 1), ofSide1);
        Check.due("both", x.side(0, 1) + x.side(1, 1), x.fees(-1));
    }

    private static void halvesIfNothingIsLost() {
        Check.sentence("If neither side has lost anything, each side bears one half of the fees, rounded down, and side 0 a missing cent");
        ArbitrationFees x = Check.withParties(1, 0);
        sharesAre(x, 0, 0);
        x.claim(0, 1, 1);
        sharesAre(x, 2500, 2500);
        x.claim(0, 1, 9);
        sharesAre(x, 2501, 2500);
        x.claim(1, 0, 10);
        sharesAre(x, 2501, 2501);
        x.withdraw(2, 10);
        sharesAre(x, 2501, 2500);
    }

    private static void allForOneSide() {
        Check.sentence("otherwise each side bears the fees times what it has lost, divided by what both have lost together");
        ArbitrationFees x = Check.withParties(0, 1);
        x.claim(0, 1, 10);
        x.goOn();
        x.award(0, 1);
        sharesAre(x, 0, 5001);
        x.undo();
        x.dismiss(0, 1);
        sharesAre(x, 5001, 0);
        x.award(0, 1);
        sharesAre(x, 2501, 2500);
    }

    private static void missingCentForSide0() {
        Check.sentence("divided by what both have lost together and rounded down, and side 0 a missing cent.");
        ArbitrationFees x = Check.withParties(0, 1);
        x.setTier(0, 0);
        x.claim(0, 1, 100);
        x.goOn();
        x.dismiss(0, 1);
        x.award(0, 2);
        // 5000 / 3 = 1666.6.., 10000 / 3 = 3333.3..
        sharesAre(x, 1667, 3333);
        x.dismiss(0, 3);
        // 20000 / 6 = 3333.3.., 10000 / 6 = 1666.6..
        sharesAre(x, 3334, 1666);
    }

    private static void noMissingCent() {
        Check.sentence("divided by what both have lost together and rounded down, and side 0 a missing cent.");
        ArbitrationFees x = Check.withParties(0, 1);
        x.setTier(0, 0);
        x.claim(0, 1, 100);
        x.goOn();
        x.dismiss(0, 1);
        x.award(0, 4);
        sharesAre(x, 1000, 4000);
        x.dismiss(0, 3);
        sharesAre(x, 2500, 2500);
    }

    private static void largestShares() {
        Check.sentence("each side bears the fees times what it has lost, divided by what both have lost together");
        ArbitrationFees x = withTiers(2000);
        for (int i = 0; i < 12; i++) {
            x.claim(0, 1, 100000000);
        }
        x.goOn();
        for (int i = 0; i < 12; i++) {
            x.award(i, 99999999);
            x.dismiss(i, 1);
        }
        Check.due("lost by side 0", x.side(0, 0), 12);
        Check.due("lost by side 1", x.side(1, 0), 1199999988);
        // 240005000 * 12 / 1200000000 = 2.40005
        sharesAre(x, 3, 240004997);
    }

    private static void sideWithoutParties() {
        Check.sentence("The share of a side without parties is told, though nobody bears it.");
        ArbitrationFees none = new ArbitrationFees();
        ArbitrationFees one = Check.withParties(0);
        for (int what = 0; what <= 3; what++) {
            Check.due("side(0, " + what + ") of none", none.side(0, what), 0);
            Check.due("side(1, " + what + ") of none", none.side(1, what), 0);
            Check.due("side(1, " + what + ") of one", one.side(1, what), 0);
        }
        Check.due("parties of the other side", one.side(0, 2), 1);
        Check.due("what the one bears", one.party(0, 7), 0);
        Check.due("takeFees()", one.takeFees(), 0);
    }
}
