/** The sentences of the terms and of promises 22 to 25 and 28 to 31 that name a boundary, one method for each. */
public final class DebtBoundariesTest {
    private static final int LEAST = Check.LEAST;
    private static final int MOST = Check.MOST;
    private static final String FIRST_ONE = "If several exceptions apply, the one that is documented first is thrown.";
    private static final long BEYOND = 2500000000L;

    public static void main(String[] args) {
        owed();
        numbersOfDebts();
        settlements();
        offsets();
        nets();
        growing();
        days();
        stages();
        Check.end();
    }

    private static ArbitrationFees inStage1(int... sides) {
        ArbitrationFees x = Check.withParties(sides);
        x.goOn();
        return x;
    }

    private static ArbitrationFees owing(int amount) {
        ArbitrationFees x = inStage1(0, 1);
        Check.owe(x, 0, 1, amount);
        return x;
    }

    /** Two parties that owe each other more than an int holds, in stage 0. */
    private static ArbitrationFees owingBeyondAnInt() {
        ArbitrationFees x = Check.withParties(0, 1);
        for (int i = 0; i < 50; i++) {
            x.call(100000000);
        }
        Check.due("payFor", x.payFor(0, 1), BEYOND);
        Check.due("payFor", x.payFor(1, 0), BEYOND);
        return x;
    }

    // ---- promise 22

    private static void owed() {
        noSuchPartyOfADebt();
        nothingIsOwed();
        owedIsPrincipalAndInterest();
        owedBeyondAnInt();
    }

    private static void noSuchPartyOfADebt() {
        Check.promise(22, "Throws IndexOutOfBoundsException if one of the parties does not exist");
        ArbitrationFees x = owing(100);
        Check.eachThrows("owed(n, 1)", Check.INDEX, n -> x.owed(n, 1), -1, 2, 5, 6, LEAST, MOST);
        Check.eachThrows("owed(0, n)", Check.INDEX, n -> x.owed(0, n), -1, 2, 5, 6, LEAST, MOST);
        Check.eachThrows("owed(n, n)", Check.INDEX, n -> x.owed(n, n), -1, 2, LEAST, MOST);
    }

    private static void nothingIsOwed() {
        Check.promise(22, "Returns the amount, 0 also if both are the same.");
        ArbitrationFees x = owing(100);
        Check.due("owed(0, 0)", x.owed(0, 0), 0);
        Check.due("owed(1, 1)", x.owed(1, 1), 0);
        Check.due("owed(1, 0)", x.owed(1, 0), 0);
        Check.due("owed(0, 1)", x.owed(0, 1), 100);
    }

    private static void owedIsPrincipalAndInterest() {
        Check.sentence("What is owed is the principal plus the interest that is not paid.");
        ArbitrationFees x = owing(9000);
        x.pass(5);
        Check.due("owed", x.owed(0, 1), 9005);
        x.settle(0, 1, 4);
        Check.due("owed", x.owed(0, 1), 9001);
        Check.due("interest that is not paid", x.debt(0, 3), 1);
    }

    private static void owedBeyondAnInt() {
        Check.promise(22, "Returns what a party owes another one.");
        ArbitrationFees x = owingBeyondAnInt();
        Check.due("owed(0, 1)", x.owed(0, 1), BEYOND);
        Check.due("party(0, 9)", x.party(0, 9), BEYOND);
        Check.due("party(0, 10)", x.party(0, 10), BEYOND);
        Check.due("account(3)", x.account(3), 2 * BEYOND);
        Check.due("debt(1, 2)", x.debt(1, 2), BEYOND);
        Check.due("the entry", x.entry(15, true), BEYOND);
        x.setRate(0, 2000);
        // 2500000000 * 2000 * 999 / 3600000 for each of them
        Check.due("pass(999)", x.pass(999), 2 * 1387500000L);
        Check.due("no units", x.debt(0, 4), 0);
        Check.due("interest", x.debt(1, 3), 1387500000L);
        Check.due("owed(0, 1)", x.owed(0, 1), 3887500000L);
    }

    // ---- promise 23

    private static void numbersOfDebts() {
        noSuchDebt();
        noSuchNumberOfADebt();
        firstExceptionOfDebt();
        oneDebtOfAPartyToAnother();
        debtsInBothDirections();
        laterNumbersDecrease();
        unitsAreForgotten();
        principalGrowsAnew();
    }

    private static void noSuchDebt() {
        Check.promise(23, "Throws IndexOutOfBoundsException if there is no such debt");
        ArbitrationFees none = Check.withParties(0, 1);
        Check.eachThrows("debt(n, 0) without debts", Check.INDEX, n -> none.debt(n, 0), 0, -1, 29, 30, LEAST, MOST);
        ArbitrationFees x = owing(100);
        Check.eachThrows("debt(n, 0) of one", Check.INDEX, n -> x.debt(n, 0), -1, 1, 29, 30, LEAST, MOST);
        ArbitrationFees most = Check.withParties(0, 1, 0, 1, 0, 1);
        for (int far = 1; far < 6; far++) {
            most.call(6000);
            for (int i = 0; i < 6; i++) {
                most.payFor((i + far) % 6, i);
            }
        }
        Check.eachThrows("debt(n, 0) of thirty", Check.INDEX, n -> most.debt(n, 0), -1, 30, 31, LEAST, MOST);
        Check.due("debt(29, 0)", most.debt(29, 0), 5);
    }

    private static void noSuchNumberOfADebt() {
        Check.promise(23, "Throws IllegalArgumentException if what is not 0 to 4");
        ArbitrationFees x = owing(100);
        Check.eachThrows("debt(0, n)", Check.ARGUMENT, n -> x.debt(0, n), -1, 5, LEAST, MOST);
        Check.due("debt(0, 0)", x.debt(0, 0), 0);
        Check.due("debt(0, 4)", x.debt(0, 4), 0);
    }

    private static void firstExceptionOfDebt() {
        Check.sentence(FIRST_ONE);
        ArbitrationFees x = owing(100);
        Check.thrown("debt(1, 5)", Check.INDEX, () -> x.debt(1, 5));
        Check.thrown("debt(-1, -1)", Check.INDEX, () -> x.debt(-1, -1));
    }

    private static void oneDebtOfAPartyToAnother() {
        Check.sentence("There is at most one debt of a party to another one.");
        ArbitrationFees x = owing(100);
        Check.owe(x, 0, 1, 100000000);
        x.call(20);
        x.payFor(1, 0);
        Check.due("debts", x.account(2), 1);
        Check.due("principal", x.debt(0, 2), 100000110);
    }

    private static void debtsInBothDirections() {
        Check.sentence("Debts in both directions stand side by side until they are offset");
        ArbitrationFees x = owing(100);
        Check.owe(x, 1, 0, 100);
        Check.due("debts", x.account(2), 2);
        Check.due("owed(0, 1)", x.owed(0, 1), 100);
        Check.due("owed(1, 0)", x.owed(1, 0), 100);
        x.pass(1);
        Check.due("debts", x.account(2), 2);
        x.offset(0, 1);
        Check.due("offset", x.account(2), 0);
    }

    private static void laterNumbersDecrease() {
        Check.sentence("when one ends, the numbers of the later ones decrease by 1.");
        for (int ends = 0; ends < 3; ends++) {
            ArbitrationFees x = inStage1(0, 1, 0, 1);
            int[] debtors = {0, 1, 2};
            int[] creditors = {1, 2, 3};
            for (int i = 0; i < 3; i++) {
                Check.owe(x, debtors[i], creditors[i], 10 + i);
            }
            Check.due("one cent is left", x.settle(debtors[ends], creditors[ends], 9 + ends), 1);
            Check.due("debts", x.account(2), 3);
            Check.due("it ends", x.settle(debtors[ends], creditors[ends], 1), 0);
            Check.due("debts", x.account(2), 2);
            for (int i = 0; i < 2; i++) {
                Check.due("debtor of " + i, x.debt(i, 0), debtors[i < ends ? i : i + 1]);
                Check.due("principal of " + i, x.debt(i, 2), 10 + (i < ends ? i : i + 1));
            }
            Check.thrown("no third debt", Check.INDEX, () -> x.debt(2, 0));
        }
    }

    private static void unitsAreForgotten() {
        Check.sentence("A debt of which nothing is owed any more ends, and its units are forgotten.");
        ArbitrationFees x = owing(8999);
        x.pass(1);
        Check.due("one unit less than a cent is missing", x.debt(0, 4), 8999 * 400);
        Check.due("it ends", x.settle(0, 1, 8999), 0);
        Check.due("debts", x.account(2), 0);
        Check.owe(x, 0, 1, 1);
        Check.due("no units anew", x.debt(0, 4), 0);
        Check.due("no cent from units that are forgotten", x.pass(1), 0);
    }

    private static void principalGrowsAnew() {
        Check.sentence("When a party gets a debt to another one anew, the principal of the debt that there is grows");
        ArbitrationFees x = owing(9000);
        Check.owe(x, 1, 0, 9000);
        x.pass(3);
        Check.owe(x, 0, 1, 1);
        Check.due("still the first one", x.debt(0, 0), 0);
        Check.due("principal", x.debt(0, 2), 9001);
        Check.due("interest", x.debt(0, 3), 3);
        Check.due("debts", x.account(2), 2);
        x.settle(0, 1, 9004);
        Check.owe(x, 0, 1, 1);
        Check.sentence("or there is a new debt, which is the last one.");
        Check.due("the last one", x.debt(1, 0), 0);
        Check.due("without interest", x.debt(1, 3), 0);
    }

    // ---- promise 24

    private static void settlements() {
        noSuchPartyOfASettlement();
        settlementOfLessThanOne();
        moreThanIsOwed();
        settlementWithItself();
        firstExceptionOfSettle();
        interestAndThenPrincipal();
        lastCent();
        settlementOfTheMost();
    }

    private static void noSuchPartyOfASettlement() {
        Check.promise(24, "Throws IndexOutOfBoundsException if one of the parties does not exist");
        ArbitrationFees x = owing(100);
        Check.eachThrows("settle(n, 1, 1)", Check.INDEX, n -> x.settle(n, 1, 1), -1, 2, 5, 6, LEAST, MOST);
        Check.eachThrows("settle(0, n, 1)", Check.INDEX, n -> x.settle(0, n, 1), -1, 2, 5, 6, LEAST, MOST);
    }

    private static void settlementOfLessThanOne() {
        Check.promise(24, "Throws IllegalArgumentException if amount is less than 1");
        ArbitrationFees x = owing(100);
        Check.eachThrows("settle(0, 1, n)", Check.ARGUMENT, n -> x.settle(0, 1, n), 0, -1, LEAST);
        Check.due("one cent", x.settle(0, 1, 1), 99);
    }

    private static void moreThanIsOwed() {
        Check.promise(24, "Throws UnsupportedOperationException if it is refused; the reason is then kept");
        ArbitrationFees x = owing(100);
        Check.refused("a cent more", x, 4, () -> x.settle(0, 1, 101));
        Check.refused("far more", x, 4, () -> x.settle(0, 1, MOST));
        Check.refused("nothing is owed that way", x, 4, () -> x.settle(1, 0, 1));
        Check.due("all", x.settle(0, 1, 100), 0);
        Check.refused("nothing any more", x, 4, () -> x.settle(0, 1, 1));
        x.undo();
        x.pass(90);
        Check.due("interest counts", x.settle(0, 1, 101), 0);
    }

    private static void settlementWithItself() {
        Check.sentence("A party owes itself nothing, so that settling that is refused for reason 4.");
        ArbitrationFees x = owing(100);
        Check.refused("settle(0, 0, 1)", x, 4, () -> x.settle(0, 0, 1));
        Check.refused("settle(1, 1, 100)", x, 4, () -> x.settle(1, 1, 100));
    }

    private static void firstExceptionOfSettle() {
        Check.sentence(FIRST_ONE);
        ArbitrationFees x = owing(100);
        Check.thrown("settle(2, 0, 0)", Check.INDEX, () -> x.settle(2, 0, 0));
        Check.thrown("settle(-1, -1, 101)", Check.INDEX, () -> x.settle(-1, -1, 101));
        Check.thrown("settle(0, 0, 0)", Check.ARGUMENT, () -> x.settle(0, 0, 0));
        Check.thrown("settle(1, 0, 0)", Check.ARGUMENT, () -> x.settle(1, 0, 0));
        Check.thrown("no reason is kept", Check.NONE, () -> x.reason());
    }

    private static void interestAndThenPrincipal() {
        Check.sentence("A payment of a debt pays the interest first, and then the principal.");
        ArbitrationFees x = owing(9000);
        x.pass(10);
        Check.due("a part of the interest", x.settle(0, 1, 9), 9001);
        Check.due("interest", x.debt(0, 3), 1);
        Check.due("principal", x.debt(0, 2), 9000);
        Check.due("the last of the interest", x.settle(0, 1, 1), 9000);
        Check.due("interest", x.debt(0, 3), 0);
        Check.due("principal", x.debt(0, 2), 9000);
        x.pass(1);
        Check.due("the interest and a cent of the principal", x.settle(0, 1, 2), 8999);
        Check.due("interest", x.debt(0, 3), 0);
        Check.due("principal", x.debt(0, 2), 8999);
    }

    private static void lastCent() {
        Check.sentence("A debt of which nothing is owed any more ends");
        ArbitrationFees x = owing(9000);
        x.pass(1);
        Check.due("all but a cent", x.settle(0, 1, 9000), 1);
        Check.due("the debt stays", x.account(2), 1);
        Check.due("the cent is of the principal", x.debt(0, 2), 1);
        Check.due("the last cent", x.settle(0, 1, 1), 0);
        Check.due("the debt ends", x.account(2), 0);
    }

    private static void settlementOfTheMost() {
        Check.promise(24, "Returns what is still owed.");
        ArbitrationFees x = owingBeyondAnInt();
        Check.due("settle of the most", x.settle(1, 0, MOST), BEYOND - MOST);
        Check.due("the entry", x.entry(15, true), MOST);
        Check.refused("the most again", x, 4, () -> x.settle(1, 0, MOST));
        Check.due("the rest", x.settle(1, 0, 352516353), 0);
    }

    // ---- promise 25

    private static void offsets() {
        noSuchPartyOfAnOffset();
        offsetWithItself();
        oneOwesNothing();
        firstExceptionOfOffset();
        lesserOfBoth();
        offsetBeyondAnInt();
        enteredOnce();
    }

    private static void noSuchPartyOfAnOffset() {
        Check.promise(25, "Throws IndexOutOfBoundsException if one of the parties does not exist");
        ArbitrationFees x = owing(100);
        Check.eachThrows("offset(n, 1)", Check.INDEX, n -> x.offset(n, 1), -1, 2, 5, 6, LEAST, MOST);
        Check.eachThrows("offset(0, n)", Check.INDEX, n -> x.offset(0, n), -1, 2, 5, 6, LEAST, MOST);
    }

    private static void offsetWithItself() {
        Check.promise(25, "Throws IllegalArgumentException if both are the same");
        ArbitrationFees x = owing(100);
        Check.eachThrows("offset(n, n)", Check.ARGUMENT, n -> x.offset(n, n), 0, 1);
        Check.thrown("no reason is kept", Check.NONE, () -> x.reason());
    }

    private static void oneOwesNothing() {
        Check.promise(25, "Throws UnsupportedOperationException if it is refused; the reason is then kept");
        ArbitrationFees x = inStage1(0, 1);
        Check.refused("neither owes anything", x, 5, () -> x.offset(0, 1));
        Check.owe(x, 0, 1, 100);
        Check.refused("the other one owes nothing", x, 5, () -> x.offset(0, 1));
        Check.refused("the one owes nothing", x, 5, () -> x.offset(1, 0));
        Check.owe(x, 1, 0, 1);
        Check.due("one cent is enough", x.offset(0, 1), 1);
        Check.refused("and is offset", x, 5, () -> x.offset(0, 1));
    }

    private static void firstExceptionOfOffset() {
        Check.sentence(FIRST_ONE);
        ArbitrationFees x = inStage1(0, 1);
        Check.thrown("offset(2, 2)", Check.INDEX, () -> x.offset(2, 2));
        Check.thrown("offset(-1, -1)", Check.INDEX, () -> x.offset(-1, -1));
        Check.thrown("offset(0, 0)", Check.ARGUMENT, () -> x.offset(0, 0));
    }

    private static void lesserOfBoth() {
        Check.promise(25, "Offsets the debts of two parties: of both debts, the lesser one of the amounts that are owed is paid.");
        for (int more = -1; more <= 1; more++) {
            ArbitrationFees x = owing(9000);
            x.pass(1);
            Check.owe(x, 1, 0, 9001 + more);
            Check.due("offset", x.offset(1, 0), Math.min(9001, 9001 + more));
            Check.due("left of the one", x.owed(0, 1), more < 0 ? 1 : 0);
            Check.due("left of the other one", x.owed(1, 0), more > 0 ? 1 : 0);
            Check.due("debts", x.account(2), more == 0 ? 0 : 1);
        }
    }

    private static void offsetBeyondAnInt() {
        Check.promise(25, "Returns this amount.");
        ArbitrationFees x = owingBeyondAnInt();
        x.settle(0, 1, 1);
        Check.due("offset", x.offset(0, 1), BEYOND - 1);
        Check.due("left", x.owed(1, 0), 1);
        Check.due("debts", x.account(2), 1);
        Check.due("the entry", x.entry(15, true), BEYOND - 1);
    }

    private static void enteredOnce() {
        Check.sentence("and an offset is entered once.");
        ArbitrationFees x = owing(100);
        Check.owe(x, 1, 0, 100);
        x.offset(0, 1);
        Check.due("kind", x.entry(2, false), 9);
        Check.due("amount", x.entry(2, true), 100);
        Check.thrown("no second entry", Check.NONE, () -> x.entry(3, true));
    }

    // ---- promise 28

    private static void nets() {
        Check.promise(28, "Throws IndexOutOfBoundsException if there is no such party");
        ArbitrationFees x = owing(100);
        Check.eachThrows("net", Check.INDEX, n -> x.net(n), -1, 2, 5, 6, LEAST, MOST);
        Check.promise(28, "Returns the difference, which can be negative.");
        Check.due("net(0)", x.net(0), -100);
        Check.due("net(1)", x.net(1), 100);
        Check.owe(x, 1, 0, 100);
        Check.due("net(0) then", x.net(0), 0);
        ArbitrationFees y = owingBeyondAnInt();
        y.settle(0, 1, MOST);
        y.settle(0, 1, 352516353);
        Check.due("net(1) beyond an int", y.net(1), -BEYOND);
        Check.due("net(0) beyond an int", y.net(0), BEYOND);
        Check.due("nobody", Check.withParties(0).net(0), 0);
    }

    // ---- promise 29

    private static void growing() {
        noSuchDebtToGrow();
        rangeOfGrownAmount();
        firstExceptionOfGrowsTo();
        owedAlready();
        within3650Days();
        aheadOfTheLastDay();
        unitsThatThereAre();
        atNoRate();
        growsBeyondAnInt();
        growsToLeavesAll();
    }

    private static void noSuchDebtToGrow() {
        Check.promise(29, "Throws IndexOutOfBoundsException if there is no such debt");
        ArbitrationFees none = Check.withParties(0, 1);
        Check.eachThrows("growsTo(n, 5) without debts", Check.INDEX, n -> none.growsTo(n, 5), 0, -1, 29, 30, LEAST, MOST);
        ArbitrationFees x = owing(100);
        Check.eachThrows("growsTo(n, 5) of one", Check.INDEX, n -> x.growsTo(n, 5), -1, 1, 29, 30, LEAST, MOST);
    }

    private static void rangeOfGrownAmount() {
        Check.promise(29, "Throws IllegalArgumentException if the amount is out of range");
        ArbitrationFees x = owing(100000000);
        Check.eachThrows("growsTo(0, n)", Check.ARGUMENT, n -> x.growsTo(0, n), 0, -1, 1000000001, LEAST, MOST);
        Check.due("one cent", x.growsTo(0, 1), 0);
        Check.thrown("the most", Check.NONE, () -> x.growsTo(0, 1000000000));
        for (int i = 0; i < 9; i++) {
            Check.owe(x, 0, 1, 99999999);
        }
        // 999999991 at 400 are 111111 cents a day
        Check.due("the most, soon", x.growsTo(0, 1000000000), 1);
    }

    private static void firstExceptionOfGrowsTo() {
        Check.sentence(FIRST_ONE);
        ArbitrationFees x = owing(100);
        Check.thrown("growsTo(1, 0)", Check.INDEX, () -> x.growsTo(1, 0));
        Check.thrown("growsTo(-1, 1000000001)", Check.INDEX, () -> x.growsTo(-1, 1000000001));
        x.setRate(1, 0);
        Check.thrown("growsTo(0, 1000000001)", Check.ARGUMENT, () -> x.growsTo(0, 1000000001));
    }

    private static void owedAlready() {
        Check.promise(29, "Returns the number of days, 0 if that much is owed already.");
        ArbitrationFees x = owing(9000);
        Check.due("less", x.growsTo(0, 8999), 0);
        Check.due("just that much", x.growsTo(0, 9000), 0);
        Check.due("a cent more", x.growsTo(0, 9001), 1);
        x.pass(5);
        Check.due("with interest", x.growsTo(0, 9005), 0);
        Check.due("a cent more", x.growsTo(0, 9006), 1);
    }

    private static void within3650Days() {
        Check.promise(29, "Throws NoSuchElementException if it will not be within 3650 days");
        ArbitrationFees x = owing(9000);
        Check.due("3649 days", x.growsTo(0, 12649), 3649);
        Check.due("3650 days", x.growsTo(0, 12650), 3650);
        Check.thrown("3651 days", Check.NONE, () -> x.growsTo(0, 12651));
        Check.owe(x, 0, 1, 1);
        // 9001 * 400 * 3650 are 3650 cents and 1460000 units
        Check.due("3650 days of a little more", x.growsTo(0, 12651), 3650);
        Check.thrown("3651 days of a little more", Check.NONE, () -> x.growsTo(0, 12652));
    }

    private static void aheadOfTheLastDay() {
        Check.sentence("growsTo counts the units that there are, and looks 3650 days ahead of the present day, whatever it is.");
        ArbitrationFees x = owing(9000);
        x.setRate(1, 0);
        x.pass(999);
        x.pass(999);
        x.pass(999);
        x.pass(653);
        x.setRate(1, 400);
        Check.due("the last day", x.account(8), 3650);
        Check.due("one day ahead", x.growsTo(0, 9001), 1);
        Check.due("3650 days ahead", x.growsTo(0, 12650), 3650);
        Check.thrown("3651 days ahead", Check.NONE, () -> x.growsTo(0, 12651));
    }

    private static void unitsThatThereAre() {
        Check.sentence("growsTo counts the units that there are");
        ArbitrationFees x = owing(9001);
        x.setRate(1, 399);
        x.pass(1);
        // 9001 * 399 = 3591399 units, 8601 less than a cent
        Check.due("units", x.debt(0, 4), 3591399);
        Check.due("one day", x.growsTo(0, 9002), 1);
        x.setRate(1, 1);
        Check.due("9001 units a day", x.growsTo(0, 9002), 1);
        x.settle(0, 1, 401);
        // 8600 units a day are one less than it takes
        Check.due("two days", x.growsTo(0, 8601), 2);
        Check.due("a second cent", x.growsTo(0, 8602), 420);
    }

    private static void atNoRate() {
        Check.promise(29, "Throws NoSuchElementException if it will not be within 3650 days");
        ArbitrationFees x = Check.withParties(0, 1);
        x.call(20000);
        x.payFor(1, 0);
        Check.thrown("stage 0 at 0", Check.NONE, () -> x.growsTo(0, 10001));
        Check.due("owed already", x.growsTo(0, 10000), 0);
        x.goOn();
        Check.promise(29, "Returns after how many days a debt will have grown to an amount, in the present stage.");
        Check.due("stage 1 at 400", x.growsTo(0, 10001), 1);
        // 4000000 units a day: 10 cents take 36000000
        Check.due("ten cents", x.growsTo(0, 10010), 9);
        x.goOn();
        Check.due("stage 2 at 600", x.growsTo(0, 10010), 6);
        x.goOn();
        Check.due("stage 3 at 900", x.growsTo(0, 10010), 4);
    }

    private static void growsBeyondAnInt() {
        Check.promise(29, "0 if that much is owed already.");
        ArbitrationFees x = owingBeyondAnInt();
        Check.due("more is owed than can be asked for", x.growsTo(0, 1000000000), 0);
    }

    private static void growsToLeavesAll() {
        Check.sentence("Methods whose documentation does not mention a change only answer a question.");
        ArbitrationFees x = owing(9000);
        x.growsTo(0, 12650);
        Check.due("interest", x.debt(0, 3), 0);
        Check.due("day", x.account(8), 0);
    }

    // ---- promise 30

    private static void days() {
        rangeOfDays();
        beyondTheLastDay();
        firstExceptionOfPass();
        centsAndUnits();
        interestBearsNoInterest();
        rateOfTheDay();
        sumOfInterest();
    }

    private static void rangeOfDays() {
        Check.promise(30, "Throws IllegalArgumentException if days is out of range");
        ArbitrationFees x = new ArbitrationFees();
        Check.eachThrows("pass", Check.ARGUMENT, n -> x.pass(n), -1, 1000, LEAST, MOST);
        Check.due("day", x.account(8), 0);
        Check.due("no day", x.pass(0), 0);
        Check.due("day", x.account(8), 0);
        Check.due("the most", x.pass(999), 0);
        Check.due("day", x.account(8), 999);
    }

    private static void beyondTheLastDay() {
        Check.promise(30, "Throws IllegalStateException if the present day would be greater than 3650");
        ArbitrationFees x = new ArbitrationFees();
        x.pass(999);
        x.pass(999);
        x.pass(999);
        Check.thrown("to the day 3651", Check.STATE, () -> x.pass(654));
        Check.thrown("to the day 3996", Check.STATE, () -> x.pass(999));
        Check.due("day", x.account(8), 2997);
        x.pass(652);
        Check.due("the day before the last one", x.account(8), 3649);
        Check.thrown("two days more", Check.STATE, () -> x.pass(2));
        Check.due("one day more", x.pass(1), 0);
        Check.due("the last day", x.account(8), 3650);
        Check.thrown("one day more", Check.STATE, () -> x.pass(1));
        Check.due("no day more", x.pass(0), 0);
        Check.due("the last day", x.account(8), 3650);
    }

    private static void firstExceptionOfPass() {
        Check.sentence(FIRST_ONE);
        ArbitrationFees x = new ArbitrationFees();
        x.pass(999);
        x.pass(999);
        x.pass(999);
        x.pass(653);
        Check.eachThrows("pass on the last day", Check.ARGUMENT, n -> x.pass(n), -1, 1000, LEAST, MOST);
        Check.eachThrows("pass on the last day", Check.STATE, n -> x.pass(n), 1, 999);
    }

    private static void centsAndUnits() {
        Check.sentence("for each 3600000 units, there is one cent of interest, and units that are less than that are kept.");
        int[] principals = {3599999, 3600000, 3600001, 7199999, 7200000};
        int[] cents = {0, 1, 1, 1, 2};
        int[] units = {3599999, 0, 1, 3599999, 0};
        for (int i = 0; i < principals.length; i++) {
            ArbitrationFees x = owing(principals[i]);
            x.setRate(1, 1);
            Check.due("pass(1) with " + principals[i], x.pass(1), cents[i]);
            Check.due("interest", x.debt(0, 3), cents[i]);
            Check.due("units", x.debt(0, 4), units[i]);
        }
        ArbitrationFees x = owing(1);
        x.setRate(1, 2000);
        x.pass(999);
        Check.due("one unit short of a cent: 1799 days", x.pass(800), 0);
        Check.due("units", x.debt(0, 4), 3598000);
        Check.due("1800 days", x.pass(1), 1);
        Check.due("units", x.debt(0, 4), 0);
    }

    private static void interestBearsNoInterest() {
        Check.sentence("The fees of a debt do not matter: interest bears no interest");
        ArbitrationFees x = owing(9000);
        x.setRate(1, 2000);
        Check.due("five cents a day", x.pass(720), 3600);
        Check.due("still five cents a day", x.pass(720), 3600);
        x.settle(0, 1, 7200);
        Check.due("and still", x.pass(1), 5);
        x.settle(0, 1, 4505);
        Check.due("two and a half of half the principal", x.pass(2), 5);
    }

    private static void rateOfTheDay() {
        Check.sentence("and a debt grows by the principal and the rate of the day that passes.");
        ArbitrationFees x = owing(9000);
        x.pass(1);
        x.setRate(1, 200);
        x.pass(1);
        Check.due("a cent and a half", x.debt(0, 3), 1);
        Check.due("units", x.debt(0, 4), 1800000);
        x.goOn();
        x.pass(1);
        Check.due("three cents", x.debt(0, 3), 3);
        Check.due("no units", x.debt(0, 4), 0);
        Check.owe(x, 0, 1, 9000);
        x.pass(1);
        Check.due("three cents more", x.debt(0, 3), 6);
    }

    private static void sumOfInterest() {
        Check.promise(30, "Returns by how many cents all interest together has grown.");
        ArbitrationFees x = inStage1(0, 1, 0);
        Check.due("without debts", x.pass(10), 0);
        Check.owe(x, 0, 1, 4500);
        Check.owe(x, 1, 2, 4500);
        Check.due("two halves are no cent", x.pass(1), 0);
        Check.due("one cent of each", x.pass(1), 2);
        Check.due("not what has grown before", x.pass(0), 0);
        Check.thrown("no entry", Check.NONE, () -> x.entry(2, true));
    }

    // ---- promise 31

    private static void stages() {
        Check.promise(31, "Throws IllegalStateException if the stage is 3");
        ArbitrationFees x = new ArbitrationFees();
        for (int stage = 1; stage <= 3; stage++) {
            Check.due("goOn()", x.goOn(), stage);
        }
        Check.thrown("goOn() from 3", Check.STATE, () -> x.goOn());
        Check.due("stage", x.account(9), 3);
        Check.thrown("goOn() again", Check.STATE, () -> x.goOn());
        Check.due("undo()", x.undo(), 2);
        Check.due("goOn() behind undo", x.goOn(), 3);
    }
}
