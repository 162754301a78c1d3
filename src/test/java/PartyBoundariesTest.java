/** The sentences of the terms and of promises 1 to 6 that name a boundary, one method for each. */
public final class PartyBoundariesTest {
    private static final int LEAST = Check.LEAST;
    private static final int MOST = Check.MOST;

    public static void main(String[] args) {
        partiesAndSplitting();
        ratesAndTiers();
        clearing();
        Check.end();
    }

    private static void partiesAndSplitting() {
        noParties();
        numbersOfParties();
        sixParties();
        sixPartiesAndAWrongOne();
        roomForASixthPartyAgain();
        sides();
        weights();
        sideAndWeightBothWrong();
        noSuchParty();
        noSuchAmountOfAParty();
        noSuchPartyAndNoSuchAmount();
        amountsAtFirst();
        heldIsPaidMinusTakenAndReturned();
        shortByNothingIfLess();
        splitWithoutMissingCents();
        splitOfFewerCentsThanParties();
        splitOfNoCents();
        splitWithMostMissingCents();
        splitAmongOneParty();
        splitAmongTheLowestNumbersOfTheSide();
        splitOfTheLargestFees();
    }

    private static void ratesAndTiers() {
        dayAtFirst();
        stageAtFirst();
        ratesAtFirst();
        tiersAtFirst();
        rangeOfRates();
        noSuchStage();
        noSuchStageAndWrongRate();
        rangeOfTierRates();
        noSuchTier();
        noSuchTierAndWrongRate();
        previousRate();
        previousRateOfTier();
        lowestAndHighestRate();
        lowestAndHighestTierRate();
    }

    private static void clearing() {
        clearOfNothing();
        clearOfSixParties();
        clearForgetsChanges();
        clearKeepsTheReason();
        clearKeepsAFullInput();
        clearKeepsTheErrorPosition();
        clearKeepsWhatWasSaved();
        clearOfEverything();
    }

    // ---- parties and splitting

    private static void noParties() {
        Check.promise(1, "Creates accounts without parties and claims.");
        ArbitrationFees x = new ArbitrationFees();
        Check.due("account(0)", x.account(0), 0);
        Check.due("account(1)", x.account(1), 0);
        Check.eachThrows("party(n, 0)", Check.INDEX, n -> x.party(n, 0), 0, -1, 5, 6, LEAST, MOST);
        Check.eachThrows("net", Check.INDEX, n -> x.net(n), 0, -1, 5, 6, LEAST, MOST);
        Check.thrown("claim", Check.INDEX, () -> x.claim(0, 0, 5));
        Check.thrown("pay", Check.INDEX, () -> x.pay(0, 5));
        Check.thrown("payFor", Check.INDEX, () -> x.payFor(0, 0));
        Check.thrown("owed", Check.INDEX, () -> x.owed(0, 0));
        Check.thrown("settle", Check.INDEX, () -> x.settle(0, 0, 5));
        Check.thrown("offset", Check.INDEX, () -> x.offset(0, 0));
        Check.thrown("reason", Check.NONE, () -> x.reason());
    }

    private static void numbersOfParties() {
        Check.sentence("There are at most 6 parties, numbered from 0 in the order in which they were added.");
        ArbitrationFees x = new ArbitrationFees();
        for (int i = 0; i < 6; i++) {
            Check.due("addParty", x.addParty(i % 2, i + 2), i);
            Check.due("account(0)", x.account(0), i + 1);
        }
        for (int i = 0; i < 6; i++) {
            Check.due("side of " + i, x.party(i, 0), i % 2);
            Check.due("weight of " + i, x.party(i, 1), i + 2);
        }
    }

    private static ArbitrationFees withSix() {
        return Check.withParties(0, 1, 0, 1, 0, 1);
    }

    private static void sixParties() {
        Check.promise(3, "Throws IllegalStateException if there are 6 parties");
        ArbitrationFees x = withSix();
        Check.thrown("a seventh", Check.STATE, () -> x.addParty(0, 1));
        Check.thrown("a seventh of the other side", Check.STATE, () -> x.addParty(1, 9));
        Check.due("account(0)", x.account(0), 6);
        Check.due("parties of side 0", x.side(0, 2), 3);
        ArbitrationFees oneSided = Check.withParties(1, 1, 1, 1, 1, 1);
        Check.thrown("a first one of side 0", Check.STATE, () -> oneSided.addParty(0, 1));
    }

    private static void sixPartiesAndAWrongOne() {
        Check.sentence("If several exceptions apply, the one that is documented first is thrown.");
        ArbitrationFees x = withSix();
        Check.thrown("side 2", Check.ARGUMENT, () -> x.addParty(2, 1));
        Check.thrown("weight 0", Check.ARGUMENT, () -> x.addParty(0, 0));
    }

    private static void roomForASixthPartyAgain() {
        Check.promise(3, "Throws IllegalStateException if there are 6 parties");
        ArbitrationFees x = Check.withParties(0, 1, 0, 1, 0);
        x.save();
        x.addParty(1, 1);
        x.undo();
        Check.due("behind undo", x.addParty(1, 2), 5);
        Check.due("its weight", x.party(5, 1), 2);
        x.restore();
        Check.due("behind restore", x.addParty(0, 3), 5);
        Check.due("its weight", x.party(5, 1), 3);
        x.clear();
        Check.due("behind clear", x.addParty(0, 4), 0);
    }

    private static void sides() {
        Check.sentence("A party is on the side 0 or 1");
        ArbitrationFees x = new ArbitrationFees();
        Check.eachThrows("addParty(n, 1)", Check.ARGUMENT, n -> x.addParty(n, 1), -1, 2, LEAST, MOST);
        Check.due("parties", x.account(0), 0);
        Check.due("side 0", x.addParty(0, 1), 0);
        Check.due("side 1", x.addParty(1, 1), 1);
    }

    private static void weights() {
        Check.sentence("and has a weight from 1 to 9");
        ArbitrationFees x = new ArbitrationFees();
        Check.eachThrows("addParty(0, n)", Check.ARGUMENT, n -> x.addParty(0, n), 0, -1, 10, LEAST, MOST);
        Check.due("parties", x.account(0), 0);
        Check.due("weight 1", x.addParty(0, 1), 0);
        Check.due("weight 9", x.addParty(0, 9), 1);
        Check.due("both", x.side(0, 3), 10);
    }

    private static void sideAndWeightBothWrong() {
        Check.promise(3, "Throws IllegalArgumentException if a number is out of range");
        ArbitrationFees x = new ArbitrationFees();
        Check.thrown("addParty(-1, 0)", Check.ARGUMENT, () -> x.addParty(-1, 0));
        Check.thrown("addParty(2, 10)", Check.ARGUMENT, () -> x.addParty(2, 10));
        Check.thrown("no change", Check.NONE, () -> x.undo());
    }

    private static void noSuchParty() {
        Check.promise(6, "Throws IndexOutOfBoundsException if there is no such party");
        ArbitrationFees x = Check.withParties(0, 1);
        Check.eachThrows("party(n, 0)", Check.INDEX, n -> x.party(n, 0), -1, 2, 5, 6, LEAST, MOST);
        Check.due("the last one", x.party(1, 0), 1);
        ArbitrationFees full = withSix();
        Check.eachThrows("party(n, 0) of six", Check.INDEX, n -> full.party(n, 0), -1, 6, 7, LEAST, MOST);
        Check.due("the last one of six", full.party(5, 0), 1);
    }

    private static void noSuchAmountOfAParty() {
        Check.promise(6, "Throws IllegalArgumentException if what is not 0 to 10");
        ArbitrationFees x = Check.withParties(1);
        Check.eachThrows("party(0, n)", Check.ARGUMENT, n -> x.party(0, n), -1, 11, LEAST, MOST);
        Check.due("party(0, 0)", x.party(0, 0), 1);
        Check.due("party(0, 10)", x.party(0, 10), 0);
    }

    private static void noSuchPartyAndNoSuchAmount() {
        Check.sentence("If several exceptions apply, the one that is documented first is thrown.");
        ArbitrationFees x = Check.withParties(1);
        Check.thrown("party(1, 11)", Check.INDEX, () -> x.party(1, 11));
        Check.thrown("party(-1, -1)", Check.INDEX, () -> x.party(-1, -1));
    }

    private static void amountsAtFirst() {
        Check.sentence("Each party has four amounts: called, paid, taken and returned, at first 0.");
        ArbitrationFees x = Check.withParties(0, 1);
        x.call(500);
        x.pay(0, 700);
        x.addParty(0, 5);
        for (int what = 2; what <= 10; what++) {
            Check.due("party(2, " + what + ")", x.party(2, what), 0);
        }
    }

    private static void heldIsPaidMinusTakenAndReturned() {
        Check.sentence("What is held for a party is what is paid minus what is taken and what is returned.");
        ArbitrationFees x = Check.withParties(0, 1);
        x.setTier(0, 0);
        x.claim(0, 1, 5);
        x.pay(0, 2500);
        Check.due("held", x.party(0, 6), 2500);
        x.takeFees();
        Check.due("nothing is held", x.party(0, 6), 0);
        x.goOn();
        x.goOn();
        x.goOn();
        x.pay(0, 1);
        Check.due("one cent is held", x.party(0, 6), 1);
        x.giveBack();
        Check.due("nothing is held again", x.party(0, 6), 0);
        Check.due("returned", x.party(0, 5), 1);
    }

    private static void shortByNothingIfLess() {
        Check.sentence("A party is short by what is called minus what is paid, or by 0 if that is less.");
        ArbitrationFees x = Check.withParties(0, 1);
        x.call(1000);
        x.pay(0, 499);
        Check.due("one cent less than called", x.party(0, 8), 1);
        x.pay(0, 1);
        Check.due("just what is called", x.party(0, 8), 0);
        x.pay(0, 1);
        Check.due("one cent more than called", x.party(0, 8), 0);
        x.call(2);
        Check.due("what was too much counts", x.party(0, 8), 0);
        x.call(2);
        Check.due("one cent again", x.party(0, 8), 1);
        Check.due("all of both", x.account(11), 1 + 502);
    }

    private static void isSplit(ArbitrationFees x, long... due) {
        for (int i = 0; i < due.length; i++) {
            Check.due("called from " + i, x.party(i, 2), due[i]);
        }
    }

    private static void splitWithoutMissingCents() {
        Check.sentence("each gets the amount times its weight, divided by the sum of the weights and rounded down");
        ArbitrationFees x = new ArbitrationFees();
        x.addParty(0, 1);
        x.addParty(0, 9);
        x.addParty(0, 2);
        Check.due("call(240)", x.call(240), 120);
        isSplit(x, 10, 90, 20);
    }

    private static void splitOfFewerCentsThanParties() {
        Check.sentence("then the cents that are missing are given, one to each, to the parties with the lowest numbers.");
        ArbitrationFees x = Check.withParties(0, 0, 0);
        Check.due("two cents among three", x.call(3), 2);
        isSplit(x, 1, 1, 0);
        x.undo();
        Check.due("one cent among three", x.call(1), 1);
        isSplit(x, 1, 0, 0);
        x.undo();
        Check.due("three cents among three", x.call(6), 3);
        isSplit(x, 1, 1, 1);
        ArbitrationFees heavy = new ArbitrationFees();
        heavy.addParty(0, 1);
        heavy.addParty(0, 9);
        heavy.call(1);
        // 1 * 9 / 10 is 0, so that the cent is given by the number and not by the weight
        isSplit(heavy, 1, 0);
    }

    private static void splitOfNoCents() {
        Check.sentence("To split an amount by weights among parties");
        ArbitrationFees x = Check.withParties(1, 1);
        Check.due("half of one cent, rounded down", x.call(1), 0);
        isSplit(x, 0, 0);
        Check.due("the entry", x.entry(0, true), 0);
    }

    private static void splitWithMostMissingCents() {
        Check.sentence("then the cents that are missing are given, one to each, to the parties with the lowest numbers.");
        ArbitrationFees x = Check.withParties(1, 1, 1, 1, 1, 1);
        // 11 among six: one each, and five are missing
        x.call(22);
        isSplit(x, 2, 2, 2, 2, 2, 1);
        x.call(24);
        isSplit(x, 4, 4, 4, 4, 4, 3);
    }

    private static void splitAmongOneParty() {
        Check.sentence("each gets the amount times its weight, divided by the sum of the weights and rounded down");
        ArbitrationFees x = new ArbitrationFees();
        x.addParty(1, 9);
        x.addParty(0, 7);
        x.call(100000000);
        isSplit(x, 50000000, 50000000);
        x.call(99999999);
        isSplit(x, 99999999, 100000000);
    }

    private static void splitAmongTheLowestNumbersOfTheSide() {
        Check.sentence("to the parties with the lowest numbers.");
        ArbitrationFees x = Check.withParties(1, 0, 1, 0, 1, 0);
        // 11 from side 0: 3 each and two more; 10 from side 1: 3 each and one more
        x.call(21);
        isSplit(x, 4, 4, 3, 4, 3, 3);
    }

    private static void splitOfTheLargestFees() {
        Check.sentence("The share of a side is split by weights among its parties");
        ArbitrationFees x = new ArbitrationFees();
        x.addParty(0, 9);
        x.addParty(1, 1);
        x.addParty(0, 8);
        for (int i = 0; i < 4; i++) {
            x.setTier(i, 2000);
        }
        for (int i = 0; i < 12; i++) {
            x.claim(0, 1, 100000000);
        }
        x.goOn();
        for (int i = 0; i < 12; i++) {
            x.dismiss(i, 100000000);
        }
        Check.due("share of side 0", x.side(0, 1), 240005000);
        Check.due("share of side 1", x.side(1, 1), 0);
        // 240005000 * 9 / 17 = 127061470.5.., 240005000 * 8 / 17 = 112943529.4..
        Check.due("share of party 0", x.party(0, 7), 127061471);
        Check.due("share of party 1", x.party(1, 7), 0);
        Check.due("share of party 2", x.party(2, 7), 112943529);
    }

    // ---- rates and tiers

    private static void dayAtFirst() {
        Check.sentence("Days are numbered from 0 to 3650, the present day is 0 at first.");
        Check.due("account(8)", new ArbitrationFees().account(8), 0);
    }

    private static void stageAtFirst() {
        Check.sentence("There are four stages, numbered from 0, of which the present one is 0 at first.");
        Check.due("account(9)", new ArbitrationFees().account(9), 0);
    }

    private static void ratesAtFirst() {
        Check.sentence("they are at first 0, 400, 600 and 900.");
        ArbitrationFees x = new ArbitrationFees();
        int[] due = {0, 400, 600, 900};
        for (int i = 0; i < 4; i++) {
            Check.due("rate of stage " + i, x.setRate(i, 1), due[i]);
        }
    }

    private static void tiersAtFirst() {
        Check.sentence("they are at first 1000, 500, 250 and 100.");
        ArbitrationFees x = new ArbitrationFees();
        int[] due = {1000, 500, 250, 100};
        for (int i = 0; i < 4; i++) {
            Check.due("rate of tier " + i, x.setTier(i, 1), due[i]);
        }
    }

    private static void rangeOfRates() {
        Check.promise(4, "Throws IllegalArgumentException if the rate is out of range");
        ArbitrationFees x = new ArbitrationFees();
        for (int i = 0; i < 4; i++) {
            int stage = i;
            x.setRate(stage, 5);
            Check.eachThrows("setRate", Check.ARGUMENT, n -> x.setRate(stage, n), -1, 2001, LEAST, MOST);
            Check.due("the rate stays", x.setRate(stage, 0), 5);
            Check.due("0 is a rate", x.setRate(stage, 2000), 0);
            Check.due("2000 is a rate", x.setRate(stage, 1), 2000);
        }
    }

    private static void noSuchStage() {
        Check.promise(4, "Throws IndexOutOfBoundsException if there is no such stage");
        ArbitrationFees x = new ArbitrationFees();
        Check.eachThrows("setRate(n, 5)", Check.INDEX, n -> x.setRate(n, 5), -1, 4, LEAST, MOST);
        Check.thrown("no change", Check.NONE, () -> x.undo());
    }

    private static void noSuchStageAndWrongRate() {
        Check.sentence("If several exceptions apply, the one that is documented first is thrown.");
        ArbitrationFees x = new ArbitrationFees();
        Check.eachThrows("setRate(4, n)", Check.INDEX, n -> x.setRate(4, n), -1, 2001, LEAST, MOST);
        Check.eachThrows("setRate(-1, n)", Check.INDEX, n -> x.setRate(-1, n), -1, 2001, LEAST, MOST);
    }

    private static void rangeOfTierRates() {
        Check.promise(5, "Throws IllegalArgumentException if the rate is out of range");
        ArbitrationFees x = new ArbitrationFees();
        for (int i = 0; i < 4; i++) {
            int tier = i;
            x.setTier(tier, 5);
            Check.eachThrows("setTier", Check.ARGUMENT, n -> x.setTier(tier, n), -1, 2001, LEAST, MOST);
            Check.due("the rate stays", x.setTier(tier, 0), 5);
            Check.due("0 is a rate", x.setTier(tier, 2000), 0);
            Check.due("2000 is a rate", x.setTier(tier, 1), 2000);
        }
    }

    private static void noSuchTier() {
        Check.promise(5, "Throws IndexOutOfBoundsException if there is no such tier");
        ArbitrationFees x = new ArbitrationFees();
        Check.eachThrows("setTier(n, 5)", Check.INDEX, n -> x.setTier(n, 5), -1, 4, LEAST, MOST);
        Check.thrown("no change", Check.NONE, () -> x.undo());
    }

    private static void noSuchTierAndWrongRate() {
        Check.sentence("If several exceptions apply, the one that is documented first is thrown.");
        ArbitrationFees x = new ArbitrationFees();
        Check.eachThrows("setTier(4, n)", Check.INDEX, n -> x.setTier(4, n), -1, 2001, LEAST, MOST);
        Check.eachThrows("setTier(-1, n)", Check.INDEX, n -> x.setTier(-1, n), -1, 2001, LEAST, MOST);
    }

    private static void previousRate() {
        Check.promise(4, "Returns the previous rate.");
        ArbitrationFees x = new ArbitrationFees();
        Check.due("setRate(0, 2000)", x.setRate(0, 2000), 0);
        Check.due("the same again", x.setRate(0, 2000), 2000);
        Check.due("another stage", x.setRate(3, 2000), 900);
        Check.due("the first one again", x.setRate(0, 0), 2000);
    }

    private static void previousRateOfTier() {
        Check.promise(5, "Returns the previous rate.");
        ArbitrationFees x = new ArbitrationFees();
        Check.due("setTier(0, 0)", x.setTier(0, 0), 1000);
        Check.due("the same again", x.setTier(0, 0), 0);
        Check.due("another tier", x.setTier(3, 0), 100);
        Check.due("the first one again", x.setTier(0, 2000), 0);
    }

    private static void lowestAndHighestRate() {
        Check.sentence("Each stage has an interest rate from 0 to 2000, in hundredths of a percent for each year of 360 days");
        ArbitrationFees x = Check.withParties(0, 1);
        x.goOn();
        Check.owe(x, 0, 1, 100000000);
        x.setRate(1, 0);
        Check.due("a year at 0", x.pass(360), 0);
        Check.due("no units", x.debt(0, 4), 0);
        x.setRate(1, 2000);
        Check.due("a year at 20 percent", x.pass(360), 20000000);
        x.setRate(1, 1);
        Check.due("a year at a hundredth of a percent", x.pass(360), 10000);
    }

    private static void lowestAndHighestTierRate() {
        Check.sentence("A rate is from 0 to 2000, in hundredths of a percent");
        ArbitrationFees x = new ArbitrationFees();
        for (int i = 0; i < 4; i++) {
            x.setTier(i, 0);
        }
        Check.due("all at 0", x.wouldBe(1200000000), 5000);
        for (int i = 0; i < 4; i++) {
            x.setTier(i, 2000);
        }
        Check.due("all at 20 percent", x.wouldBe(1200000000), 240005000);
        for (int i = 0; i < 4; i++) {
            x.setTier(i, 1);
        }
        Check.due("all at a hundredth of a percent", x.wouldBe(1200000000), 125000);
    }

    // ---- clear

    private static void clearOfNothing() {
        Check.promise(2, "Returns the number of parties that there were.");
        ArbitrationFees x = new ArbitrationFees();
        Check.due("clear()", x.clear(), 0);
        Check.due("clear() again", x.clear(), 0);
        Check.due("addParty", x.addParty(0, 1), 0);
        Check.due("clear() of one", x.clear(), 1);
    }

    private static void clearOfSixParties() {
        Check.promise(2, "Returns the number of parties that there were.");
        ArbitrationFees x = withSix();
        Check.due("clear()", x.clear(), 6);
        Check.due("account(0)", x.account(0), 0);
        Check.eachThrows("party(n, 0)", Check.INDEX, n -> x.party(n, 0), 0, 5, 6);
    }

    private static void clearForgetsChanges() {
        Check.sentence("clear and restore forget all of them.");
        ArbitrationFees x = withSix();
        x.clear();
        Check.thrown("undo()", Check.NONE, () -> x.undo());
        x.pass(1);
        Check.due("undo() of what came after it", x.undo(), 0);
        Check.due("parties", x.account(0), 0);
        Check.thrown("undo() once more", Check.NONE, () -> x.undo());
    }

    private static void clearKeepsTheReason() {
        Check.promise(2, "Makes everything as in a new object, apart from the reason");
        ArbitrationFees x = new ArbitrationFees();
        x.clear();
        Check.thrown("no reason", Check.NONE, () -> x.reason());
        Check.thrown("giveBack", Check.REFUSED, () -> x.giveBack());
        x.clear();
        Check.due("reason()", x.reason(), 6);
    }

    private static void clearKeepsAFullInput() {
        Check.promise(2, "apart from the reason, the input");
        ArbitrationFees x = new ArbitrationFees();
        for (int i = 0; i < 69; i++) {
            x.append('g');
        }
        x.clear();
        Check.due("append", x.append('g'), 70);
        x.clear();
        Check.thrown("append to a full input", Check.STATE, () -> x.append('g'));
    }

    private static void clearKeepsTheErrorPosition() {
        Check.promise(2, "the error position and what was saved.");
        ArbitrationFees x = new ArbitrationFees();
        x.clear();
        Check.thrown("no error position", Check.NONE, () -> x.errorPosition());
        Check.thrown("read", Check.ARGUMENT, () -> Check.read(x, "n12"));
        x.clear();
        Check.due("errorPosition()", x.errorPosition(), 3);
    }

    private static void clearKeepsWhatWasSaved() {
        Check.promise(2, "what was saved.");
        ArbitrationFees x = Check.withParties(0, 1);
        x.clear();
        Check.thrown("nothing saved", Check.STATE, () -> x.restore());
        x.addParty(0, 1);
        x.addParty(1, 1);
        x.claim(0, 1, 5);
        x.save();
        x.clear();
        Check.due("claims", x.account(1), 0);
        Check.due("restore()", x.restore(), 1);
        Check.due("parties", x.account(0), 2);
    }

    private static void clearOfEverything() {
        Check.promise(2, "Makes everything as in a new object");
        ArbitrationFees x = withSix();
        for (int i = 0; i < 4; i++) {
            x.setRate(i, 2000);
            x.setTier(i, 2000);
        }
        Check.owe(advanced(x), 0, 1, 100000000);
        x.call(100000000);
        x.payFor(0, 1);
        x.pay(0, 100000000);
        x.takeFees();
        x.pass(999);
        x.goOn();
        x.goOn();
        x.giveBack();
        x.clear();
        Check.dueText("as new", Answers.of(x), Answers.of(new ArbitrationFees()));
        ratesAtFirstOf(x);
        Check.due("side as new", x.addParty(1, 1), 0);
        Check.due("goOn()", x.goOn(), 1);
    }

    private static ArbitrationFees advanced(ArbitrationFees x) {
        x.goOn();
        return x;
    }

    private static void ratesAtFirstOf(ArbitrationFees x) {
        int[] rates = {0, 400, 600, 900};
        int[] tiers = {1000, 500, 250, 100};
        for (int i = 0; i < 4; i++) {
            Check.due("rate", x.setRate(i, rates[i]), rates[i]);
            Check.due("rate of a tier", x.setTier(i, tiers[i]), tiers[i]);
        }
    }
}
