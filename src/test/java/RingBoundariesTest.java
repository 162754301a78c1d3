/** The sentences of the terms and of promises 26 and 27 that name a boundary, one method for each. */
public final class RingBoundariesTest {
    private static final int LEAST = Check.LEAST;
    private static final int MOST = Check.MOST;

    public static void main(String[] args) {
        rings();
        clearing();
        Check.end();
    }

    private static ArbitrationFees inStage1(int... sides) {
        ArbitrationFees x = Check.withParties(sides);
        x.goOn();
        return x;
    }

    private static void ringIs(ArbitrationFees x, int... due) {
        for (int i = 0; i < due.length; i++) {
            Check.due("ring(" + i + ")", x.ring(i), due[i]);
        }
        Check.eachThrows("ring", Check.NONE, n -> x.ring(n), due.length, -1, 6, LEAST, MOST);
    }

    // ---- promise 26

    private static void rings() {
        noRing();
        noSuchIndex();
        twoPartiesAreARing();
        rowWithoutAnEndIsNoRing();
        sixPartiesAreARing();
        shortestFirst();
        lexicographicOrder();
        lowestNumberFirst();
        ringThatEnds();
    }

    private static void noRing() {
        Check.promise(26, "Throws NoSuchElementException if there is no ring, or no such index");
        ArbitrationFees none = new ArbitrationFees();
        Check.eachThrows("ring without parties", Check.NONE, n -> none.ring(n), 0, -1, 1, 6, LEAST, MOST);
        ArbitrationFees x = inStage1(0, 1);
        Check.eachThrows("ring without debts", Check.NONE, n -> x.ring(n), 0, -1, 1, 6, LEAST, MOST);
    }

    private static void noSuchIndex() {
        Check.promise(26, "Throws NoSuchElementException if there is no ring, or no such index");
        ArbitrationFees x = inStage1(0, 1);
        Check.owe(x, 0, 1, 5);
        Check.owe(x, 1, 0, 5);
        Check.due("ring(0)", x.ring(0), 0);
        Check.due("ring(1)", x.ring(1), 1);
        Check.eachThrows("ring", Check.NONE, n -> x.ring(n), -1, 2, 5, 6, LEAST, MOST);
    }

    private static void twoPartiesAreARing() {
        Check.sentence("and two parties that owe each other something are a ring.");
        ArbitrationFees x = inStage1(0, 1);
        Check.owe(x, 1, 0, 100000000);
        ringIs(x);
        Check.owe(x, 0, 1, 1);
        ringIs(x, 0, 1);
    }

    private static void rowWithoutAnEndIsNoRing() {
        Check.sentence("such that each one owes something to the next one, and the last one to the first one.");
        ArbitrationFees x = inStage1(0, 1, 0, 1);
        Check.owe(x, 0, 1, 5);
        Check.owe(x, 1, 2, 5);
        Check.owe(x, 2, 3, 5);
        Check.owe(x, 0, 3, 5);
        ringIs(x);
        Check.owe(x, 3, 0, 1);
        ringIs(x, 0, 3);
        x.settle(0, 3, 5);
        ringIs(x, 0, 1, 2, 3);
        x.settle(1, 2, 5);
        ringIs(x);
    }

    private static void sixPartiesAreARing() {
        Check.sentence("A ring is a row of at least two parties, all different");
        ArbitrationFees x = inStage1(0, 1, 0, 1, 0, 1);
        for (int i = 5; i >= 0; i--) {
            ringIs(x);
            Check.owe(x, i, (i + 1) % 6, 5);
        }
        ringIs(x, 0, 1, 2, 3, 4, 5);
        ArbitrationFees back = inStage1(0, 1, 0, 1, 0, 1);
        for (int i = 0; i < 6; i++) {
            Check.owe(back, (i + 1) % 6, i, 5);
        }
        ringIs(back, 0, 5, 4, 3, 2, 1);
    }

    private static void shortestFirst() {
        Check.sentence("Rings are compared by their lengths, the shortest first");
        ArbitrationFees x = inStage1(0, 1, 0, 1, 0, 1);
        Check.owe(x, 0, 1, 5);
        Check.owe(x, 1, 2, 5);
        Check.owe(x, 2, 3, 5);
        Check.owe(x, 3, 0, 5);
        Check.owe(x, 4, 5, 5);
        ringIs(x, 0, 1, 2, 3);
        Check.owe(x, 5, 4, 5);
        ringIs(x, 4, 5);
        x.settle(5, 4, 5);
        ringIs(x, 0, 1, 2, 3);
        Check.owe(x, 3, 4, 5);
        Check.owe(x, 5, 0, 5);
        ringIs(x, 0, 1, 2, 3);
        x.settle(3, 0, 5);
        ringIs(x, 0, 1, 2, 3, 4, 5);
    }

    private static void lexicographicOrder() {
        Check.sentence("and then in lexicographic order.");
        ArbitrationFees x = inStage1(0, 1, 0, 1);
        Check.owe(x, 2, 3, 5);
        Check.owe(x, 3, 2, 5);
        ringIs(x, 2, 3);
        Check.owe(x, 2, 1, 5);
        Check.owe(x, 1, 2, 5);
        ringIs(x, 1, 2);
        Check.owe(x, 0, 3, 5);
        Check.owe(x, 3, 0, 5);
        ringIs(x, 0, 3);
        Check.owe(x, 0, 1, 5);
        Check.owe(x, 1, 0, 5);
        ringIs(x, 0, 1);
        x.settle(0, 1, 5);
        x.settle(3, 0, 5);
        x.settle(2, 1, 5);
        x.settle(3, 2, 5);
        // 0 to 3, 1 to 0, 1 to 2, 2 to 3
        ringIs(x);
        ArbitrationFees y = Check.withParties(0, 0, 0, 0);
        y.call(4000);
        y.payFor(2, 0);
        y.payFor(3, 1);
        y.payFor(1, 2);
        y.payFor(0, 3);
        // 0 to 2, 2 to 1, 1 to 3, 3 to 0
        ringIs(y, 0, 2, 1, 3);
        y.call(4000);
        y.payFor(1, 0);
        y.payFor(2, 1);
        // 0 to 1, 1 to 2 besides: 1 and 2 owe each other
        ringIs(y, 1, 2);
        y.settle(2, 1, 500);
        y.payFor(3, 2);
        // 0 to 1 and 2, 1 to 2 and 3, 2 to 3, 3 to 0
        ringIs(y, 0, 1, 3);
        y.settle(1, 3, 500);
        ringIs(y, 0, 2, 3);
        y.settle(0, 2, 500);
        ringIs(y, 0, 1, 2, 3);
    }

    private static void lowestNumberFirst() {
        Check.sentence("the first of which has the lowest number of them");
        ArbitrationFees x = inStage1(0, 1, 0, 1, 0, 1);
        Check.owe(x, 5, 4, 5);
        Check.owe(x, 4, 5, 5);
        ringIs(x, 4, 5);
        ArbitrationFees y = Check.withParties(0, 0, 0, 0, 0);
        y.call(10000);
        y.payFor(2, 4);
        y.payFor(4, 3);
        y.payFor(3, 2);
        // 4 to 2, 2 to 3, 3 to 4
        ringIs(y, 2, 3, 4);
    }

    private static void ringThatEnds() {
        Check.sentence("such that each one owes something to the next one");
        ArbitrationFees x = inStage1(0, 1);
        Check.owe(x, 0, 1, 9000);
        Check.owe(x, 1, 0, 9000);
        x.pass(1);
        x.settle(1, 0, 9000);
        ringIs(x, 0, 1);
        x.settle(1, 0, 1);
        ringIs(x);
        x.undo();
        ringIs(x, 0, 1);
        x.clear();
        ringIs(x);
    }

    // ---- promise 27

    private static void clearing() {
        nothingToClear();
        leastAmount();
        allOfTheRingEnd();
        ringAfterRing();
        sumBeyondAnInt();
        sixPartyRing();
    }

    private static void nothingToClear() {
        Check.sentence("without a ring the answer and the entry are 0.");
        ArbitrationFees none = new ArbitrationFees();
        Check.due("without parties", none.clearRings(), 0);
        Check.due("kind", none.entry(0, false), 10);
        Check.due("amount", none.entry(0, true), 0);
        ArbitrationFees x = inStage1(0, 1);
        Check.owe(x, 0, 1, 5);
        Check.due("one debt alone", x.clearRings(), 0);
        Check.due("it stays", x.owed(0, 1), 5);
        Check.due("the entry", x.entry(1, true), 0);
    }

    private static void leastAmount() {
        Check.sentence("To clear a ring means that the least amount that is owed in it is paid of each of its debts.");
        int[][] amounts = {{1, 2, 3, 4}, {4, 1, 2, 3}, {3, 4, 1, 2}, {2, 3, 4, 1}};
        for (int[] row : amounts) {
            ArbitrationFees x = inStage1(0, 1, 0, 1);
            for (int i = 0; i < 4; i++) {
                Check.owe(x, i, (i + 1) % 4, row[i]);
            }
            Check.due("clearRings()", x.clearRings(), 4);
            for (int i = 0; i < 4; i++) {
                Check.due("left of " + i, x.owed(i, (i + 1) % 4), row[i] - 1);
            }
            Check.due("debts", x.account(2), 3);
        }
    }

    private static void allOfTheRingEnd() {
        Check.sentence("Clearing a ring pays the least amount of each of its debts, all of which make the answer and the entry");
        ArbitrationFees x = inStage1(0, 1);
        Check.owe(x, 0, 1, 9000);
        Check.owe(x, 1, 0, 9000);
        x.pass(1);
        Check.due("with interest", x.clearRings(), 2 * 9001);
        Check.due("the entry", x.entry(2, true), 2 * 9001);
        Check.due("debts", x.account(2), 0);
        Check.due("again", x.clearRings(), 0);
    }

    private static void ringAfterRing() {
        Check.promise(27, "Clears rings as long as there is one, each time the first one.");
        ArbitrationFees x = inStage1(0, 1, 0, 1);
        Check.owe(x, 0, 1, 5);
        Check.owe(x, 1, 0, 3);
        Check.owe(x, 1, 2, 4);
        Check.owe(x, 2, 3, 9);
        Check.owe(x, 3, 0, 1);
        // 0, 1 by 3 each; then 0, 1, 2, 3 by 1 each
        Check.due("clearRings()", x.clearRings(), 6 + 4);
        Check.due("0 to 1", x.owed(0, 1), 1);
        Check.due("1 to 2", x.owed(1, 2), 3);
        Check.due("2 to 3", x.owed(2, 3), 8);
        Check.due("3 to 0", x.owed(3, 0), 0);
        Check.thrown("one entry for both rings", Check.NONE, () -> x.entry(6, true));
    }

    private static void sumBeyondAnInt() {
        Check.promise(27, "Returns the sum of what is paid of all debts by that.");
        ArbitrationFees x = Check.withParties(0, 1);
        for (int i = 0; i < 50; i++) {
            x.call(100000000);
        }
        x.payFor(0, 1);
        x.payFor(1, 0);
        Check.due("clearRings()", x.clearRings(), 5000000000L);
        Check.due("the entry", x.entry(15, true), 5000000000L);
        Check.due("debts", x.account(2), 0);
    }

    private static void sixPartyRing() {
        Check.promise(27, "Returns the sum of what is paid of all debts by that.");
        ArbitrationFees x = inStage1(0, 1, 0, 1, 0, 1);
        for (int i = 0; i < 6; i++) {
            Check.owe(x, i, (i + 1) % 6, 7);
        }
        Check.due("clearRings()", x.clearRings(), 42);
        Check.due("debts", x.account(2), 0);
    }
}
