/** Promises 22 to 31. */
public final class DebtsTest {
    public static void main(String[] args) {
        promise22Owed();
        promise23Debt();
        promise23Numbers();
        promise23ThirtyDebts();
        promise24Settle();
        promise24InterestFirst();
        promise25Offset();
        promise26Ring();
        promise26LowestNumberFirst();
        promise26LongRing();
        promise27ClearRings();
        promise27SeveralRings();
        promise28Net();
        promise29GrowsTo();
        promise29LookAhead();
        promise29LastUnits();
        promise30Pass();
        promise30LastDay();
        promise31GoOn();
        Check.end();
    }

    private static ArbitrationFees inStage1(int... sides) {
        ArbitrationFees x = Check.withParties(sides);
        x.goOn();
        return x;
    }

    private static void promise22Owed() {
        ArbitrationFees x = inStage1(0, 1);
        Check.owe(x, 0, 1, 900);
        Check.due("owed(0, 1)", x.owed(0, 1), 900);
        Check.due("owed(1, 0)", x.owed(1, 0), 0);
        Check.due("owed(0, 0)", x.owed(0, 0), 0);
        x.pass(360);
        Check.due("with interest", x.owed(0, 1), 936);
        Check.thrown("owed(-1, 0)", Check.INDEX, () -> x.owed(-1, 0));
        Check.thrown("owed(0, 2)", Check.INDEX, () -> x.owed(0, 2));
        Check.thrown("owed(2, 2)", Check.INDEX, () -> x.owed(2, 2));
    }

    private static void promise23Debt() {
        ArbitrationFees x = inStage1(0, 1);
        Check.owe(x, 1, 0, 1000001);
        x.pass(1);
        // 1000001 * 400 units of a day are 111 cents and 400400 units
        long[] due = {1, 0, 1000001, 111, 400400};
        for (int what = 0; what <= 4; what++) {
            Check.due("debt(0, " + what + ")", x.debt(0, what), due[what]);
        }
        Check.owe(x, 1, 0, 99);
        Check.due("the principal grows", x.debt(0, 2), 1000100);
        Check.due("the interest stays", x.debt(0, 3), 111);
        Check.due("the units stay", x.debt(0, 4), 400400);
        Check.thrown("debt(-1, 0)", Check.INDEX, () -> x.debt(-1, 0));
        Check.thrown("debt(1, 5)", Check.INDEX, () -> x.debt(1, 5));
        Check.thrown("debt(0, -1)", Check.ARGUMENT, () -> x.debt(0, -1));
        Check.thrown("debt(0, 5)", Check.ARGUMENT, () -> x.debt(0, 5));
    }

    private static void promise23Numbers() {
        ArbitrationFees x = inStage1(0, 1);
        x.addParty(0, 1);
        Check.owe(x, 0, 1, 1000000);
        Check.owe(x, 1, 0, 2000000);
        Check.owe(x, 1, 2, 3000000);
        x.pass(1);
        x.settle(0, 1, 1000111);
        Check.due("debts", x.account(2), 2);
        Check.due("the later ones move", x.debt(0, 0), 1);
        Check.due("the later ones move", x.debt(0, 1), 0);
        Check.due("the later ones move", x.debt(0, 2), 2000000);
        Check.due("the later ones move", x.debt(0, 3), 222);
        Check.due("the later ones move", x.debt(0, 4), 800000);
        Check.due("the later ones move", x.debt(1, 1), 2);
        Check.due("the later ones move", x.debt(1, 2), 3000000);
        Check.thrown("no third debt", Check.INDEX, () -> x.debt(2, 0));
        Check.owe(x, 0, 1, 50);
        Check.due("anew: the last one", x.debt(2, 0), 0);
        Check.due("anew: without interest", x.debt(2, 3), 0);
        Check.due("anew: the units are forgotten", x.debt(2, 4), 0);
    }

    private static void promise23ThirtyDebts() {
        ArbitrationFees x = Check.withParties(0, 1, 0, 1, 0, 1);
        for (int far = 1; far < 6; far++) {
            x.call(6000);
            for (int i = 0; i < 6; i++) {
                Check.due("payFor", x.payFor((i + far) % 6, i), 1000);
            }
        }
        Check.due("debts", x.account(2), 30);
        Check.due("all that is owed", x.account(3), 30000);
        Check.due("what one owes", x.party(3, 9), 5000);
        Check.due("what is owed to one", x.party(5, 10), 5000);
        Check.due("the last debt", x.debt(29, 0) * 10 + x.debt(29, 1), 54);
        x.setRate(0, 360);
        // 3.6 percent of 1000 for a year
        Check.due("all of them grow", x.pass(360), 30 * 36);
        Check.due("the first one ends", x.settle(0, 1, 1036), 0);
        Check.due("the last debt", x.debt(28, 0) * 10 + x.debt(28, 1), 54);
        Check.due("the last one ends", x.settle(5, 4, 1036), 0);
        Check.thrown("the last one has ended", Check.INDEX, () -> x.debt(28, 0));
        x.goOn();
        Check.owe(x, 0, 1, 7);
        Check.due("anew", x.debt(28, 0) * 10 + x.debt(28, 1), 1);
        ringIs(x, 0, 1);
        // 13 pairs of 1036, and 7 of 0 and 1; then what is left is 1029 from 1 to 0, and 1036 from 4 to 5
        Check.due("clearRings()", x.clearRings(), 2 * (13 * 1036 + 7));
        Check.due("debts", x.account(2), 2);
        Check.due("1 to 0", x.owed(1, 0), 1029);
        Check.due("4 to 5", x.owed(4, 5), 1036);
    }

    private static void promise24Settle() {
        ArbitrationFees x = inStage1(0, 1);
        Check.owe(x, 0, 1, 500);
        Check.thrown("settle(-1, 0, 5)", Check.INDEX, () -> x.settle(-1, 0, 5));
        Check.thrown("settle(0, 2, 0)", Check.INDEX, () -> x.settle(0, 2, 0));
        Check.thrown("settle(0, 1, 0)", Check.ARGUMENT, () -> x.settle(0, 1, 0));
        Check.thrown("settle(0, 0, 0)", Check.ARGUMENT, () -> x.settle(0, 0, 0));
        Check.refused("of itself", x, 4, () -> x.settle(0, 0, 1));
        Check.refused("the wrong direction", x, 4, () -> x.settle(1, 0, 1));
        Check.refused("more than is owed", x, 4, () -> x.settle(0, 1, 501));
        Check.due("settle(0, 1, 100)", x.settle(0, 1, 100), 400);
        Check.due("kind", x.entry(1, false), 8);
        Check.due("amount", x.entry(1, true), 100);
        Check.due("settle(0, 1, 400)", x.settle(0, 1, 400), 0);
        Check.due("debts", x.account(2), 0);
        Check.refused("nothing any more", x, 4, () -> x.settle(0, 1, 1));
    }

    private static void promise24InterestFirst() {
        ArbitrationFees x = inStage1(0, 1);
        Check.owe(x, 0, 1, 10000);
        x.pass(361);
        Check.due("interest", x.debt(0, 3), 401);
        Check.due("settle(0, 1, 150)", x.settle(0, 1, 150), 10251);
        Check.due("interest", x.debt(0, 3), 251);
        Check.due("principal", x.debt(0, 2), 10000);
        long units = x.debt(0, 4);
        Check.due("settle(0, 1, 300)", x.settle(0, 1, 300), 9951);
        Check.due("interest", x.debt(0, 3), 0);
        Check.due("principal", x.debt(0, 2), 9951);
        Check.due("the units are kept", x.debt(0, 4), units);
    }

    private static void promise25Offset() {
        ArbitrationFees x = inStage1(0, 1);
        Check.thrown("offset(-1, 0)", Check.INDEX, () -> x.offset(-1, 0));
        Check.thrown("offset(2, 2)", Check.INDEX, () -> x.offset(2, 2));
        Check.thrown("offset(1, 1)", Check.ARGUMENT, () -> x.offset(1, 1));
        Check.refused("neither owes", x, 5, () -> x.offset(0, 1));
        Check.owe(x, 0, 1, 10000);
        Check.refused("only one owes", x, 5, () -> x.offset(0, 1));
        Check.refused("only one owes", x, 5, () -> x.offset(1, 0));
        x.pass(36);
        Check.owe(x, 1, 0, 70);
        Check.due("offset(0, 1)", x.offset(0, 1), 70);
        Check.due("interest first", x.debt(0, 3), 0);
        Check.due("then the principal", x.debt(0, 2), 9970);
        Check.due("the other one ended", x.account(2), 1);
        Check.due("kind", x.entry(2, false), 9);
        Check.due("amount", x.entry(2, true), 70);
        Check.thrown("entered once", Check.NONE, () -> x.entry(3, true));
        Check.owe(x, 1, 0, 1);
        Check.due("one cent", x.offset(0, 1), 1);
        Check.owe(x, 1, 0, 9968);
        Check.due("all but one cent", x.offset(1, 0), 9968);
        Check.owe(x, 1, 0, 2);
        Check.due("the last cent", x.offset(1, 0), 1);
        Check.owe(x, 0, 1, 1);
        Check.due("both end", x.offset(1, 0), 1);
        Check.due("no debts", x.account(2), 0);
    }

    private static void ringIs(ArbitrationFees x, int... due) {
        for (int i = 0; i < due.length; i++) {
            Check.due("ring(" + i + ")", x.ring(i), due[i]);
        }
        Check.thrown("ring behind its end", Check.NONE, () -> x.ring(due.length));
        Check.thrown("ring(-1)", Check.NONE, () -> x.ring(-1));
        Check.thrown("ring(6)", Check.NONE, () -> x.ring(6));
        Check.thrown("ring(most)", Check.NONE, () -> x.ring(Integer.MAX_VALUE));
    }

    private static void promise26Ring() {
        ArbitrationFees x = inStage1(0, 1, 0, 1);
        Check.owe(x, 0, 1, 10);
        ringIs(x);
        Check.owe(x, 1, 2, 10);
        Check.owe(x, 2, 3, 10);
        ringIs(x);
        Check.owe(x, 3, 0, 10);
        ringIs(x, 0, 1, 2, 3);
        // the same parties the other way round: the first rings are of two now
        Check.owe(x, 3, 2, 10);
        ringIs(x, 2, 3);
        Check.owe(x, 2, 1, 10);
        ringIs(x, 1, 2);
        Check.owe(x, 0, 3, 10);
        ringIs(x, 0, 3);
        Check.owe(x, 1, 0, 10);
        ringIs(x, 0, 1);
    }

    private static void promise26LowestNumberFirst() {
        ArbitrationFees x = Check.withParties(0, 1, 1, 0);
        x.call(1000);
        x.payFor(1, 3);
        x.payFor(3, 2);
        x.payFor(2, 1);
        // 3 owes 1, 2 owes 3, 1 owes 2
        ringIs(x, 1, 2, 3);
        x.call(1000);
        x.payFor(3, 1);
        x.payFor(0, 3);
        x.payFor(1, 0);
        // 1 owes 3 and 3 owes 1 is shorter than 0, 1, 3
        ringIs(x, 1, 3);
        x.settle(3, 1, 250);
        // 0 owes 1, 1 owes 2 and 3, 2 owes 3, 3 owes 0
        ringIs(x, 0, 1, 3);
    }

    private static void promise26LongRing() {
        ArbitrationFees x = inStage1(0, 1, 0, 1, 0, 1);
        int[] row = {0, 5, 2, 1, 4, 3};
        for (int i = 0; i < 6; i++) {
            ringIs(x);
            Check.owe(x, row[i], row[(i + 1) % 6], 10 + i);
        }
        ringIs(x, row);
        // lexicographic: 0, 3 is before 0, 5, but from 3 on it must close
        Check.owe(x, 0, 3, 1);
        ringIs(x, 0, 3);
        x.settle(0, 3, 1);
        ringIs(x, row);
        Check.due("six times the least", x.clearRings(), 60);
        Check.due("what stays", x.account(3), 15);
        ringIs(x);
    }

    private static void promise27ClearRings() {
        ArbitrationFees x = inStage1(0, 1);
        Check.due("no ring", x.clearRings(), 0);
        Check.due("kind", x.entry(0, false), 10);
        Check.due("amount", x.entry(0, true), 0);
        Check.owe(x, 0, 1, 300);
        Check.due("still no ring", x.clearRings(), 0);
        Check.owe(x, 1, 0, 200);
        Check.due("two debts", x.clearRings(), 400);
        Check.due("amount", x.entry(4, true), 400);
        Check.due("what stays", x.owed(0, 1), 100);
        Check.due("debts", x.account(2), 1);
        Check.owe(x, 1, 0, 100);
        Check.due("both end", x.clearRings(), 200);
        Check.due("debts", x.account(2), 0);
    }

    private static void promise27SeveralRings() {
        ArbitrationFees x = inStage1(0, 1, 0, 1);
        Check.owe(x, 0, 1, 10);
        Check.owe(x, 1, 2, 20);
        Check.owe(x, 2, 3, 30);
        Check.owe(x, 3, 0, 40);
        Check.owe(x, 3, 2, 25);
        Check.owe(x, 2, 1, 5);
        // 1, 2 by 5 each; then 2, 3 by 25 each; then 0, 1, 2, 3 by 5 each: the first one is looked for anew each time
        Check.due("clearRings()", x.clearRings(), 10 + 50 + 20);
        Check.due("0 to 1", x.owed(0, 1), 5);
        Check.due("1 to 2", x.owed(1, 2), 10);
        Check.due("2 to 3", x.owed(2, 3), 0);
        Check.due("3 to 0", x.owed(3, 0), 35);
        Check.due("one entry", x.entry(6, true), 80);
        Check.thrown("one entry", Check.NONE, () -> x.entry(7, true));
        x.pass(999);
        Check.due("no ring any more", x.clearRings(), 0);
    }

    private static void promise28Net() {
        ArbitrationFees x = inStage1(0, 1, 0);
        Check.owe(x, 0, 1, 500);
        Check.owe(x, 1, 0, 200);
        Check.owe(x, 1, 2, 90000);
        Check.due("net(0)", x.net(0), -300);
        Check.due("net(1)", x.net(1), -89700);
        Check.due("net(2)", x.net(2), 90000);
        x.pass(1);
        Check.due("with interest", x.net(2), 90010);
        Check.thrown("net(-1)", Check.INDEX, () -> x.net(-1));
        Check.thrown("net(3)", Check.INDEX, () -> x.net(3));
    }

    private static void promise29GrowsTo() {
        ArbitrationFees x = inStage1(0, 1);
        Check.owe(x, 0, 1, 9000);
        Check.thrown("growsTo(-1, 5)", Check.INDEX, () -> x.growsTo(-1, 5));
        Check.thrown("growsTo(1, 0)", Check.INDEX, () -> x.growsTo(1, 0));
        Check.thrown("growsTo(0, 0)", Check.ARGUMENT, () -> x.growsTo(0, 0));
        Check.thrown("growsTo(0, 1000000001)", Check.ARGUMENT, () -> x.growsTo(0, 1000000001));
        Check.thrown("growsTo(0, 1000000000)", Check.NONE, () -> x.growsTo(0, 1000000000));
        Check.due("owed already", x.growsTo(0, 1), 0);
        Check.due("owed already", x.growsTo(0, 9000), 0);
        // one cent a day
        Check.due("tomorrow", x.growsTo(0, 9001), 1);
        Check.due("3650 days", x.growsTo(0, 12650), 3650);
        Check.thrown("3651 days", Check.NONE, () -> x.growsTo(0, 12651));
        Check.owe(x, 0, 1, 1);
        x.pass(2);
        // 9001 * 400 * 2 = 7200800 units are 2 cents and 800 units
        Check.due("units", x.debt(0, 4), 800);
        Check.due("tomorrow", x.growsTo(0, 9004), 1);
        x.setRate(1, 399);
        // 3591399 units a day: with 800 more it takes two days
        Check.due("two days", x.growsTo(0, 9004), 2);
        x.setRate(1, 0);
        Check.thrown("never", Check.NONE, () -> x.growsTo(0, 9004));
        Check.due("owed already at no rate", x.growsTo(0, 9003), 0);
    }

    private static void promise29LookAhead() {
        ArbitrationFees x = inStage1(0, 1);
        Check.owe(x, 0, 1, 9000);
        for (int i = 0; i < 3; i++) {
            x.pass(999);
        }
        x.pass(653);
        Check.due("the last day", x.account(8), 3650);
        Check.due("ahead of the last day", x.growsTo(0, 9000 + 2 * 3650), 3650);
        x.goOn();
        // 600 in stage 2: one cent and a half a day
        Check.due("in the present stage", x.growsTo(0, 9000 + 3650 + 3), 2);
        x.settle(0, 1, 3650);
        Check.due("what is paid counts no more", x.growsTo(0, 9003), 2);
    }

    private static void promise29LastUnits() {
        ArbitrationFees x = inStage1(0, 1);
        Check.owe(x, 0, 1, 3599999);
        x.setRate(1, 1);
        x.pass(1);
        Check.due("one unit is missing", x.debt(0, 4), 3599999);
        Check.due("one unit is missing", x.growsTo(0, 3600000), 1);
        Check.due("a day and a unit", x.growsTo(0, 3600001), 2);
        ArbitrationFees y = inStage1(0, 1);
        Check.owe(y, 0, 1, 1);
        y.setRate(1, 2000);
        y.pass(999);
        y.pass(800);
        y.setRate(1, 1);
        Check.due("2000 units at one a day", y.growsTo(0, 2), 2000);
    }

    private static void promise30Pass() {
        ArbitrationFees x = Check.withParties(0, 1, 0);
        Check.thrown("pass(-1)", Check.ARGUMENT, () -> x.pass(-1));
        Check.thrown("pass(1000)", Check.ARGUMENT, () -> x.pass(1000));
        Check.due("pass(0)", x.pass(0), 0);
        Check.due("pass(5)", x.pass(5), 0);
        Check.due("the day", x.account(8), 5);
        x.goOn();
        Check.owe(x, 0, 1, 4500);
        Check.owe(x, 1, 2, 9000);
        // half a cent and a cent a day: the units of each debt are kept
        Check.due("pass(1)", x.pass(1), 1);
        Check.due("units", x.debt(0, 4), 1800000);
        Check.due("pass(1)", x.pass(1), 2);
        Check.due("units", x.debt(0, 4), 0);
        Check.due("pass(999)", x.pass(999), 499 + 999);
        Check.due("interest of the first", x.debt(0, 3), 500);
        Check.due("units", x.debt(0, 4), 1800000);
        x.goOn();
        // stage 2: 0.75 and 1.5 cents a day, and the units of stage 1
        Check.due("pass(2)", x.pass(2), 2 + 3);
        Check.due("no units", x.debt(0, 4), 0);
        Check.due("the principal stays", x.debt(0, 2), 4500);
        Check.thrown("pass makes no entry", Check.NONE, () -> x.entry(2, true));
    }

    private static void promise30LastDay() {
        ArbitrationFees x = new ArbitrationFees();
        for (int i = 0; i < 3; i++) {
            x.pass(999);
        }
        Check.thrown("beyond the last day", Check.STATE, () -> x.pass(654));
        Check.due("the day", x.account(8), 2997);
        Check.due("up to the last day", x.pass(653), 0);
        Check.due("the day", x.account(8), 3650);
        Check.thrown("no day more", Check.STATE, () -> x.pass(1));
        Check.thrown("out of range", Check.ARGUMENT, () -> x.pass(1000));
        Check.due("no day at all", x.pass(0), 0);
    }

    private static void promise31GoOn() {
        ArbitrationFees x = new ArbitrationFees();
        Check.due("goOn()", x.goOn(), 1);
        Check.due("goOn()", x.goOn(), 2);
        Check.due("goOn()", x.goOn(), 3);
        Check.thrown("goOn()", Check.STATE, () -> x.goOn());
        Check.due("the stage", x.account(9), 3);
        Check.due("undo()", x.undo(), 2);
        Check.due("the stage", x.account(9), 2);
    }
}
