/** Promises 13 to 21. */
public final class FeesAndDepositsTest {
    public static void main(String[] args) {
        promise13InDispute();
        promise14Fees();
        promise14TierEdges();
        promise15WouldBe();
        promise16Side();
        promise16Shares();
        promise17Call();
        promise17CallOfOneSide();
        promise18Pay();
        promise19PayFor();
        promise20TakeFees();
        promise21GiveBack();
        promise21ShareBelowTaken();
        Check.end();
    }

    private static void promise13InDispute() {
        ArbitrationFees x = Check.withParties(0, 1);
        Check.due("without claims", x.inDispute(), 0);
        x.claim(0, 1, 1000);
        x.claim(1, 0, 500);
        x.goOn();
        x.award(0, 100);
        x.dismiss(0, 200);
        Check.due("awarded and dismissed", x.inDispute(), 1500);
        x.withdraw(0, 700);
        Check.due("withdrawn", x.inDispute(), 800);
        x.withdraw(1, 500);
        Check.due("withdrawn again", x.inDispute(), 300);
    }

    private static void promise14Fees() {
        ArbitrationFees x = Check.withParties(0, 1);
        Check.thrown("fees(-2)", Check.INDEX, () -> x.fees(-2));
        Check.thrown("fees(4)", Check.INDEX, () -> x.fees(4));
        Check.due("without claims", x.fees(-1), 0);
        x.claim(0, 1, 100000000);
        Check.due("fees(0)", x.fees(0), 100000);
        Check.due("fees(1)", x.fees(1), 200000);
        Check.due("fees(2)", x.fees(2), 375000);
        Check.due("fees(3)", x.fees(3), 800000);
        Check.due("fees(-1)", x.fees(-1), 1480000);
        x.withdraw(0, 100000000);
        Check.due("all withdrawn: fees(-1)", x.fees(-1), 5000);
        Check.due("all withdrawn: fees(0)", x.fees(0), 0);
        x.claim(1, 0, 19);
        Check.due("rounded down", x.fees(0), 1);
        Check.due("with the fixed fee", x.fees(-1), 5001);
        x.setTier(0, 2000);
        Check.due("another rate", x.fees(0), 3);
    }

    private static void promise14TierEdges() {
        ArbitrationFees x = Check.withParties(0, 1);
        int[] sums = {1000000, 1000001, 1000020, 5000000, 5000001, 5000040, 20000000, 20000001, 20000100};
        long[][] due = {
            {100000, 0, 0, 0}, {100000, 0, 0, 0}, {100000, 1, 0, 0}, {100000, 200000, 0, 0}, {100000, 200000, 0, 0},
            {100000, 200000, 1, 0}, {100000, 200000, 375000, 0}, {100000, 200000, 375000, 0},
            {100000, 200000, 375000, 1}};
        for (int i = 0; i < sums.length; i++) {
            x.claim(0, 1, sums[i]);
            long all = 5000;
            for (int tier = 0; tier < 4; tier++) {
                Check.due("fees(" + tier + ") of " + sums[i], x.fees(tier), due[i][tier]);
                all += due[i][tier];
            }
            Check.due("fees(-1) of " + sums[i], x.fees(-1), all);
            Check.due("wouldBe(" + sums[i] + ")", x.wouldBe(sums[i]), all);
            x.undo();
        }
    }

    private static void promise15WouldBe() {
        ArbitrationFees x = new ArbitrationFees();
        Check.thrown("wouldBe(0)", Check.ARGUMENT, () -> x.wouldBe(0));
        Check.thrown("wouldBe(-1)", Check.ARGUMENT, () -> x.wouldBe(-1));
        Check.thrown("wouldBe(1200000001)", Check.ARGUMENT, () -> x.wouldBe(1200000001));
        Check.due("wouldBe(1)", x.wouldBe(1), 5000);
        Check.due("wouldBe(10)", x.wouldBe(10), 5001);
        Check.due("wouldBe(1200000000)", x.wouldBe(1200000000), 675000 + 11800000 + 5000);
        x.setTier(3, 2000);
        Check.due("the highest rate", x.wouldBe(1200000000), 675000 + 236000000 + 5000);
    }

    private static void promise16Side() {
        ArbitrationFees x = new ArbitrationFees();
        x.addParty(0, 2);
        x.addParty(1, 9);
        x.addParty(0, 5);
        x.claim(0, 1, 1000);
        x.claim(1, 2, 1000);
        x.goOn();
        x.award(0, 10);
        x.dismiss(0, 200);
        x.award(1, 3);
        x.dismiss(1, 40);
        x.withdraw(1, 500);
        Check.due("lost by side 0", x.side(0, 0), 203);
        Check.due("lost by side 1", x.side(1, 0), 50);
        Check.due("parties of side 0", x.side(0, 2), 2);
        Check.due("parties of side 1", x.side(1, 2), 1);
        Check.due("weights of side 0", x.side(0, 3), 7);
        Check.due("weights of side 1", x.side(1, 3), 9);
        // 5150 of fees: 5150 * 203 / 253 = 4132.2.., 5150 * 50 / 253 = 1017.7..
        Check.due("share of side 0", x.side(0, 1), 4133);
        Check.due("share of side 1", x.side(1, 1), 1017);
        Check.thrown("side(-1, 0)", Check.INDEX, () -> x.side(-1, 0));
        Check.thrown("side(2, 4)", Check.INDEX, () -> x.side(2, 4));
        Check.thrown("side(0, -1)", Check.ARGUMENT, () -> x.side(0, -1));
        Check.thrown("side(1, 4)", Check.ARGUMENT, () -> x.side(1, 4));
    }

    private static void promise16Shares() {
        ArbitrationFees x = Check.withParties(0, 1);
        x.claim(0, 1, 10);
        Check.due("half of 5001 for side 0", x.side(0, 1), 2501);
        Check.due("half of 5001 for side 1", x.side(1, 1), 2500);
        x.goOn();
        x.dismiss(0, 1);
        Check.due("all for the one that lost", x.side(0, 1), 5001);
        Check.due("nothing for the other one", x.side(1, 1), 0);
        x.award(0, 2);
        // 5001 / 3 = 1667, and both are whole
        Check.due("one third", x.side(0, 1), 1667);
        Check.due("two thirds", x.side(1, 1), 3334);
        ArbitrationFees lonely = new ArbitrationFees();
        lonely.addParty(1, 1);
        Check.due("no claim, no share", lonely.side(1, 1), 0);
    }

    private static void promise17Call() {
        ArbitrationFees x = new ArbitrationFees();
        x.addParty(0, 2);
        x.addParty(1, 1);
        x.addParty(0, 1);
        x.addParty(1, 1);
        x.addParty(1, 1);
        Check.thrown("call(0)", Check.ARGUMENT, () -> x.call(0));
        Check.thrown("call(100000001)", Check.ARGUMENT, () -> x.call(100000001));
        Check.due("call(1001)", x.call(1001), 1001);
        long[] due = {334, 167, 167, 167, 166};
        for (int i = 0; i < 5; i++) {
            Check.due("called from " + i, x.party(i, 2), due[i]);
            Check.due("short by", x.party(i, 8), due[i]);
        }
        Check.due("kind", x.entry(0, false), 4);
        Check.due("amount", x.entry(0, true), 1001);
        Check.due("call(1)", x.call(1), 1);
        Check.due("the one cent", x.party(0, 2), 335);
        Check.due("not from side 1", x.party(1, 2), 167);
        Check.due("call(100000000)", x.call(100000000), 100000000);
        Check.due("all that is called", x.account(11), 100001002);
        Check.due("nothing is paid", x.account(4), 0);
    }

    private static void promise17CallOfOneSide() {
        ArbitrationFees x = new ArbitrationFees();
        Check.due("call of nobody", x.call(77), 0);
        Check.due("kind", x.entry(0, false), 4);
        Check.due("amount", x.entry(0, true), 0);
        x.addParty(1, 3);
        Check.due("of side 1 alone", x.call(77), 38);
        Check.due("called", x.party(0, 2), 38);
        Check.due("amount", x.entry(1, true), 38);
        x.clear();
        x.addParty(0, 3);
        Check.due("of side 0 alone", x.call(77), 39);
    }

    private static void promise18Pay() {
        ArbitrationFees x = Check.withParties(0, 1);
        Check.thrown("pay(-1, 5)", Check.INDEX, () -> x.pay(-1, 5));
        Check.thrown("pay(2, 0)", Check.INDEX, () -> x.pay(2, 0));
        Check.thrown("pay(0, 0)", Check.ARGUMENT, () -> x.pay(0, 0));
        Check.thrown("pay(0, 100000001)", Check.ARGUMENT, () -> x.pay(0, 100000001));
        x.call(1000);
        Check.due("pay(0, 400)", x.pay(0, 400), 400);
        Check.due("short by", x.party(0, 8), 100);
        Check.due("pay(0, 300)", x.pay(0, 300), 700);
        Check.due("not short", x.party(0, 8), 0);
        Check.due("paid", x.party(0, 3), 700);
        Check.due("kind", x.entry(2, false), 5);
        Check.due("amount", x.entry(2, true), 300);
        Check.due("pay(1, 100000000)", x.pay(1, 100000000), 100000000);
        x.claim(0, 1, 10);
        x.takeFees();
        Check.due("held after fees", x.pay(0, 5), 5);
        Check.due("no debts by that", x.account(2), 0);
    }

    private static void promise19PayFor() {
        ArbitrationFees x = Check.withParties(0, 1, 0);
        x.call(1000);
        x.pay(1, 200);
        Check.thrown("payFor(-1, 0)", Check.INDEX, () -> x.payFor(-1, 0));
        Check.thrown("payFor(0, 3)", Check.INDEX, () -> x.payFor(0, 3));
        Check.thrown("payFor(3, 3)", Check.INDEX, () -> x.payFor(3, 3));
        Check.thrown("payFor(1, 1)", Check.ARGUMENT, () -> x.payFor(1, 1));
        Check.due("payFor(0, 1)", x.payFor(0, 1), 300);
        Check.due("owed", x.owed(1, 0), 300);
        Check.due("paid for the other one", x.party(1, 3), 500);
        Check.due("held for the other one", x.party(1, 6), 500);
        Check.due("not by the one that pays", x.party(0, 3), 0);
        Check.due("still short", x.party(0, 8), 250);
        Check.due("kind", x.entry(2, false), 5);
        Check.due("amount", x.entry(2, true), 300);
        Check.thrown("not short any more", Check.STATE, () -> x.payFor(0, 1));
        Check.due("on the same side", x.payFor(0, 2), 250);
        Check.due("owed on the same side", x.owed(2, 0), 250);
        x.call(1000);
        Check.due("again", x.payFor(0, 1), 500);
        x.pay(0, 499);
        Check.due("one cent", x.payFor(2, 0), 1);
        Check.due("one cent", x.owed(0, 2), 1);
        x.settle(0, 2, 1);
        Check.due("the debt has grown", x.owed(1, 0), 800);
        Check.due("the debt is the same one", x.debt(0, 2), 800);
        Check.due("debts", x.account(2), 2);
    }

    private static void promise20TakeFees() {
        ArbitrationFees x = Check.withParties(0, 1);
        x.setTier(0, 0);
        Check.due("nothing to take", x.takeFees(), 0);
        Check.due("kind", x.entry(0, false), 6);
        Check.due("amount", x.entry(0, true), 0);
        x.claim(0, 1, 100);
        x.pay(0, 1000);
        x.pay(1, 9000);
        Check.due("not more than is held", x.takeFees(), 3500);
        Check.due("taken from 0", x.party(0, 4), 1000);
        Check.due("taken from 1", x.party(1, 4), 2500);
        Check.due("held for 1", x.party(1, 6), 6500);
        Check.due("nothing more", x.takeFees(), 0);
        x.pay(0, 2000);
        Check.due("the rest", x.takeFees(), 1500);
        x.goOn();
        x.dismiss(0, 100);
        // party 0 bears 5000 now, and 500 are held for it; 2500 are no longer taken from party 1
        Check.due("less than nothing", x.takeFees(), -2000);
        Check.due("amount", x.entry(8, true), -2000);
        Check.due("taken from 0", x.party(0, 4), 3000);
        Check.due("taken from 1", x.party(1, 4), 0);
        Check.due("held again for 1", x.party(1, 6), 9000);
        Check.due("paid stays", x.party(1, 3), 9000);
        Check.due("all that is taken", x.account(5), 3000);
    }

    private static void promise21GiveBack() {
        ArbitrationFees x = Check.withParties(0, 1);
        x.setTier(0, 0);
        x.claim(0, 1, 100);
        x.pay(0, 2000);
        x.pay(1, 9000);
        for (int i = 0; i < 3; i++) {
            Check.refused("before stage 3", x, 6, () -> x.giveBack());
            x.goOn();
        }
        // nothing is taken yet: 2500 of each are kept
        Check.due("giveBack()", x.giveBack(), 6500);
        Check.due("kind", x.entry(2, false), 7);
        Check.due("amount", x.entry(2, true), 6500);
        Check.due("returned to 0", x.party(0, 5), 0);
        Check.due("returned to 1", x.party(1, 5), 6500);
        Check.due("held for 1", x.party(1, 6), 2500);
        Check.due("taken after that", x.takeFees(), 4500);
        Check.due("nothing to return", x.giveBack(), 0);
        Check.due("amount", x.entry(4, true), 0);
        x.pay(0, 600);
        Check.due("what is held beyond", x.giveBack(), 100);
        Check.due("all that is returned", x.account(6), 6600);
    }

    private static void promise21ShareBelowTaken() {
        ArbitrationFees x = Check.withParties(0, 1);
        x.setTier(0, 0);
        x.claim(0, 1, 100);
        x.pay(1, 3000);
        x.takeFees();
        x.goOn();
        x.dismiss(0, 100);
        x.goOn();
        x.goOn();
        // 2500 are taken and no share is due, but only what is held goes back
        Check.due("giveBack()", x.giveBack(), 500);
        Check.due("still taken", x.party(1, 4), 2500);
        Check.due("no longer taken", x.takeFees(), -2500);
        Check.due("giveBack() then", x.giveBack(), 2500);
        Check.due("held", x.account(7), 0);
    }
}
