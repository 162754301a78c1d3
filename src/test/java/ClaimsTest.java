/** Promises 7 to 12. */
public final class ClaimsTest {
    public static void main(String[] args) {
        promise7Claim();
        promise7TwelveClaims();
        promise8Award();
        promise9Dismiss();
        promise10Withdraw();
        promise11Claimed();
        promise12Reason();
        Check.end();
    }

    private static void promise7Claim() {
        ArbitrationFees x = Check.withParties(0, 0, 1);
        Check.thrown("claim(-1, 2, 5)", Check.INDEX, () -> x.claim(-1, 2, 5));
        Check.thrown("claim(3, 2, 5)", Check.INDEX, () -> x.claim(3, 2, 5));
        Check.thrown("claim(0, 3, 0)", Check.INDEX, () -> x.claim(0, 3, 0));
        Check.thrown("claim(0, -1, 5)", Check.INDEX, () -> x.claim(0, -1, 5));
        Check.thrown("claim(0, 1, 5)", Check.ARGUMENT, () -> x.claim(0, 1, 5));
        Check.thrown("claim(0, 0, 5)", Check.ARGUMENT, () -> x.claim(0, 0, 5));
        Check.thrown("claim(0, 2, 0)", Check.ARGUMENT, () -> x.claim(0, 2, 0));
        Check.thrown("claim(0, 2, 100000001)", Check.ARGUMENT, () -> x.claim(0, 2, 100000001));
        Check.due("claim(0, 2, 1)", x.claim(0, 2, 1), 0);
        Check.due("claim(2, 1, 100000000)", x.claim(2, 1, 100000000), 1);
        Check.due("a claim makes no debt", x.account(2), 0);
        Check.thrown("a claim makes no entry", Check.NONE, () -> x.entry(0, true));
        x.goOn();
        Check.due("claim in stage 1", x.claim(0, 2, 5), 2);
        x.goOn();
        Check.due("claim in stage 2", x.claim(0, 2, 5), 3);
        x.goOn();
        Check.thrown("claim in stage 3", Check.STATE, () -> x.claim(0, 2, 5));
        Check.thrown("wrong claim in stage 3", Check.ARGUMENT, () -> x.claim(0, 1, 5));
        Check.due("claims", x.account(1), 4);
    }

    private static void promise7TwelveClaims() {
        ArbitrationFees x = Check.withParties(0, 1);
        for (int i = 0; i < 12; i++) {
            Check.due("claim", x.claim(i % 2, 1 - i % 2, 100000000), i);
        }
        Check.thrown("a thirteenth claim", Check.STATE, () -> x.claim(0, 1, 5));
        Check.thrown("a wrong thirteenth claim", Check.ARGUMENT, () -> x.claim(0, 1, 0));
        Check.due("claims", x.account(1), 12);
        Check.due("sum", x.inDispute(), 1200000000);
        Check.due("fees of the sum", x.fees(-1), x.wouldBe(1200000000));
    }

    /** What award and dismiss have in common. */
    private static void rulingRefuses(boolean isAward) {
        ArbitrationFees x = Check.withParties(0, 1);
        x.claim(0, 1, 100);
        Check.refused("stage 0", x, 1, () -> rule(x, isAward, 0, 1));
        Check.refused("stage 0, more than is left", x, 1, () -> rule(x, isAward, 0, 101));
        Check.thrown("no claim -1", Check.INDEX, () -> rule(x, isAward, -1, 1));
        Check.thrown("no claim 1", Check.INDEX, () -> rule(x, isAward, 1, 0));
        Check.thrown("amount 0", Check.ARGUMENT, () -> rule(x, isAward, 0, 0));
        Check.thrown("amount least", Check.ARGUMENT, () -> rule(x, isAward, 0, Integer.MIN_VALUE));
        x.goOn();
        Check.refused("more than is left", x, 3, () -> rule(x, isAward, 0, 101));
        Check.refused("far more than is left", x, 3, () -> rule(x, isAward, 0, Integer.MAX_VALUE));
        Check.due("nothing changed", x.claimed(0, 6), 100);
        Check.due("one cent", rule(x, isAward, 0, 1), 99);
        x.goOn();
        x.goOn();
        Check.due("the rest, in stage 3", rule(x, isAward, 0, 99), 0);
        Check.refused("nothing left", x, 3, () -> rule(x, isAward, 0, 1));
    }

    private static int rule(ArbitrationFees x, boolean isAward, int claim, int amount) {
        return isAward ? x.award(claim, amount) : x.dismiss(claim, amount);
    }

    private static void promise8Award() {
        rulingRefuses(true);
        ArbitrationFees x = Check.withParties(0, 1);
        x.claim(0, 1, 1000);
        x.claim(1, 0, 1000);
        x.goOn();
        Check.due("award(0, 300)", x.award(0, 300), 700);
        Check.due("award(0, 200)", x.award(0, 200), 500);
        Check.due("award(1, 1000)", x.award(1, 1000), 0);
        Check.due("the other party owes", x.owed(1, 0), 500);
        Check.due("debts in both directions", x.owed(0, 1), 1000);
        Check.due("debts", x.account(2), 2);
        Check.due("kind", x.entry(1, false), 1);
        Check.due("amount", x.entry(1, true), 200);
        Check.due("still in dispute", x.inDispute(), 2000);
    }

    private static void promise9Dismiss() {
        rulingRefuses(false);
        ArbitrationFees x = Check.withParties(0, 1);
        x.claim(0, 1, 1000);
        x.goOn();
        Check.due("dismiss(0, 300)", x.dismiss(0, 300), 700);
        Check.due("award(0, 200)", x.award(0, 200), 500);
        Check.due("dismiss(0, 500)", x.dismiss(0, 500), 0);
        Check.due("owed by the award alone", x.account(3), 200);
        Check.due("kind", x.entry(0, false), 2);
        Check.due("amount", x.entry(2, true), 500);
        Check.due("lost by the claimant", x.side(0, 0), 800);
        Check.due("still in dispute", x.inDispute(), 1000);
    }

    private static void promise10Withdraw() {
        ArbitrationFees x = Check.withParties(0, 1);
        x.claim(0, 1, 1000);
        Check.thrown("no claim", Check.INDEX, () -> x.withdraw(1, 0));
        Check.thrown("no claim", Check.INDEX, () -> x.withdraw(-1, 1));
        Check.thrown("amount 0", Check.ARGUMENT, () -> x.withdraw(0, 0));
        Check.refused("more than is left", x, 3, () -> x.withdraw(0, 1001));
        Check.due("withdraw(0, 300)", x.withdraw(0, 300), 700);
        Check.due("in dispute", x.inDispute(), 700);
        Check.due("kind", x.entry(0, false), 3);
        Check.due("amount", x.entry(0, true), 300);
        x.goOn();
        Check.due("withdraw(0, 100) in stage 1", x.withdraw(0, 100), 600);
        Check.due("nobody has lost", x.side(0, 0) + x.side(1, 0), 0);
        x.goOn();
        Check.refused("stage 2", x, 2, () -> x.withdraw(0, 1));
        Check.refused("stage 2 and more than is left", x, 2, () -> x.withdraw(0, 601));
        x.goOn();
        Check.refused("stage 3", x, 2, () -> x.withdraw(0, 1));
        Check.due("nothing changed", x.claimed(0, 5), 400);
    }

    private static void promise11Claimed() {
        ArbitrationFees x = Check.withParties(0, 1, 0, 1);
        x.claim(0, 1, 7);
        x.claim(3, 2, 1000);
        x.goOn();
        x.award(1, 100);
        x.dismiss(1, 20);
        x.withdraw(1, 3);
        long[] due = {3, 2, 1000, 100, 20, 3, 877};
        long[] other = {0, 1, 7, 0, 0, 0, 7};
        for (int what = 0; what <= 6; what++) {
            Check.due("claimed(1, " + what + ")", x.claimed(1, what), due[what]);
            Check.due("claimed(0, " + what + ")", x.claimed(0, what), other[what]);
        }
        Check.thrown("claimed(-1, 0)", Check.INDEX, () -> x.claimed(-1, 0));
        Check.thrown("claimed(2, 7)", Check.INDEX, () -> x.claimed(2, 7));
        Check.thrown("claimed(0, -1)", Check.ARGUMENT, () -> x.claimed(0, -1));
        Check.thrown("claimed(0, 7)", Check.ARGUMENT, () -> x.claimed(0, 7));
    }

    private static void promise12Reason() {
        ArbitrationFees x = Check.withParties(0, 1);
        x.claim(0, 1, 100);
        Check.thrown("no reason yet", Check.NONE, () -> x.reason());
        Check.thrown("no claim", Check.INDEX, () -> x.award(1, 1));
        Check.thrown("still no reason", Check.NONE, () -> x.reason());
        Check.refused("stage 0", x, 1, () -> x.dismiss(0, 1));
        Check.thrown("no claim", Check.INDEX, () -> x.award(1, 1));
        Check.due("the reason stays", x.reason(), 1);
        Check.refused("more than is left", x, 3, () -> x.withdraw(0, 101));
        Check.refused("nothing is owed", x, 4, () -> x.settle(0, 1, 1));
        Check.refused("nothing to offset", x, 5, () -> x.offset(0, 1));
        Check.refused("not the last stage", x, 6, () -> x.giveBack());
        x.goOn();
        x.goOn();
        Check.due("a change keeps the reason", x.reason(), 6);
        Check.refused("stage 2", x, 2, () -> x.withdraw(0, 1));
        x.undo();
        Check.due("undo keeps the reason", x.reason(), 2);
    }
}
