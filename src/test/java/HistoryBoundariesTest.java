/** The sentences of the terms and of promises 38 to 40 that name a boundary, one method for each. */
public final class HistoryBoundariesTest {
    private interface Step {
        void take(ArbitrationFees x);
    }

    public static void main(String[] args) {
        undoing();
        changes();
        saving();
        restoring();
        callsOfAnObject();
        Check.end();
    }

    // ---- promise 38

    private static void undoing() {
        nothingToUndo();
        sixChanges();
        sevenChanges();
        changesBehindUndo();
        undoIsNoChange();
        rememberedJustBefore();
        keptBesideTheHistory();
        forgottenByClearAndRestore();
        manyRounds();
    }

    private static void nothingToUndo() {
        Check.promise(38, "Throws NoSuchElementException if no change is remembered");
        ArbitrationFees x = new ArbitrationFees();
        Check.thrown("new", Check.NONE, () -> x.undo());
        Check.thrown("again", Check.NONE, () -> x.undo());
        x.pass(1);
        Check.due("one change", x.undo(), 0);
        Check.thrown("behind it", Check.NONE, () -> x.undo());
        Check.due("day", x.account(8), 0);
    }

    private static ArbitrationFees afterDays(int changes) {
        ArbitrationFees x = new ArbitrationFees();
        for (int i = 0; i < changes; i++) {
            x.pass(1);
        }
        return x;
    }

    private static void undoesTo(ArbitrationFees x, int changes, int day) {
        for (int i = 1; i <= changes; i++) {
            Check.due("undo()", x.undo(), changes - i);
        }
        Check.due("day", x.account(8), day);
        Check.thrown("nothing more", Check.NONE, () -> x.undo());
        Check.due("day still", x.account(8), day);
    }

    private static void sixChanges() {
        Check.sentence("for at most 6 changes");
        for (int changes = 1; changes <= 6; changes++) {
            undoesTo(afterDays(changes), changes, 0);
        }
    }

    private static void sevenChanges() {
        Check.sentence("of which the oldest one is forgotten for good when there would be more.");
        undoesTo(afterDays(7), 6, 1);
        undoesTo(afterDays(8), 6, 2);
        undoesTo(afterDays(13), 6, 7);
        undoesTo(afterDays(14), 6, 8);
        undoesTo(afterDays(100), 6, 94);
        ArbitrationFees x = afterDays(7);
        x.undo();
        x.undo();
        Check.due("four are left", x.undo(), 3);
        // the room that undo makes does not bring the oldest one back
        undoesTo(x, 3, 1);
    }

    private static void changesBehindUndo() {
        Check.promise(38, "Returns the number of changes that are still remembered.");
        ArbitrationFees x = afterDays(7);
        x.undo();
        x.undo();
        x.pass(100);
        x.pass(100);
        Check.due("day", x.account(8), 205);
        x.pass(100);
        // days 2, 3, 4, 5, 105, 205 and 305: the oldest one was forgotten again
        undoesTo(x, 6, 2);
    }

    private static void undoIsNoChange() {
        Check.sentence("A change is a call of addParty");
        ArbitrationFees x = afterDays(2);
        Check.due("undo()", x.undo(), 1);
        Check.due("undo() again", x.undo(), 0);
        Check.due("day", x.account(8), 0);
    }

    private static void rememberedJustBefore() {
        Check.sentence("as it is just before a change");
        ArbitrationFees x = Check.withParties(0, 1);
        String[] before = new String[6];
        Step[] steps = {y -> y.claim(0, 1, 1000), y -> y.goOn(), y -> y.award(0, 400), y -> y.call(1001),
            y -> y.payFor(0, 1), y -> y.pass(360)};
        for (int i = 0; i < 6; i++) {
            before[i] = Answers.of(x);
            steps[i].take(x);
        }
        for (int i = 5; i >= 0; i--) {
            Check.due("undo()", x.undo(), i);
            Check.dueText("as before", Answers.of(x), before[i]);
        }
    }

    private static void keptBesideTheHistory() {
        Check.sentence("The object remembers everything except the reason, the input, the error position and what was saved");
        ArbitrationFees x = Check.withParties(0, 1);
        x.pass(1);
        Check.thrown("giveBack", Check.REFUSED, () -> x.giveBack());
        Check.thrown("read", Check.ARGUMENT, () -> Check.read(x, "n1"));
        Check.type(x, "n5");
        x.save();
        Check.due("undo()", x.undo(), 2);
        Check.due("reason", x.reason(), 6);
        Check.due("error position", x.errorPosition(), 2);
        Check.due("input", x.append(';'), 3);
        Check.due("read()", x.read(), 1);
        Check.due("day", x.account(8), 5);
        x.restore();
        Check.due("day that was saved", x.account(8), 1);
    }

    private static void forgottenByClearAndRestore() {
        Check.sentence("clear and restore forget all of them.");
        ArbitrationFees x = afterDays(7);
        x.save();
        Check.due("save forgets none", x.undo(), 5);
        x.restore();
        Check.thrown("behind restore", Check.NONE, () -> x.undo());
        x.pass(1);
        Check.due("one change behind restore", x.undo(), 0);
        Check.due("day", x.account(8), 7);
        x.pass(1);
        x.clear();
        Check.thrown("behind clear", Check.NONE, () -> x.undo());
        ArbitrationFees y = afterDays(3);
        Check.thrown("nothing is saved", Check.STATE, () -> y.restore());
        Check.due("a restore that fails forgets none", y.undo(), 2);
    }

    /** The rows of the history are used again and again, whatever their number. */
    private static void manyRounds() {
        Check.promise(38, "Undoes the latest change that is remembered.");
        ArbitrationFees x = new ArbitrationFees();
        int day = 0;
        for (int round = 0; round < 40; round++) {
            for (int i = 0; i <= round % 7; i++) {
                x.pass(1);
                day++;
            }
            for (int i = 0; i < round % 4 && i <= round % 7; i++) {
                x.undo();
                day--;
            }
            Check.due("day", x.account(8), day);
        }
    }

    // ---- what is a change

    private static void changes() {
        changesOfNothing();
        exceptionsAreNoChanges();
        questionsAreNoChanges();
        otherCallsAreNoChanges();
    }

    private static void isChange(String call, ArbitrationFees x, Step step) {
        String before = Answers.of(x);
        step.take(x);
        x.pass(0);
        Check.due("the change behind " + call, x.undo() > 0 ? 1 : 0, 1);
        int left = x.undo();
        Check.dueText(call + " is undone", Answers.of(x), before);
        step.take(x);
        Check.due(call + " again", x.undo(), left);
    }

    private static void changesOfNothing() {
        Check.sentence("that returns without an exception, also if nothing is different then.");
        ArbitrationFees x = new ArbitrationFees();
        x.goOn();
        x.goOn();
        x.goOn();
        isChange("setRate to the same rate", x, y -> y.setRate(0, 0));
        isChange("setTier to the same rate", x, y -> y.setTier(0, 1000));
        isChange("call of nobody", x, y -> y.call(1));
        isChange("takeFees of nothing", x, y -> y.takeFees());
        isChange("giveBack of nothing", x, y -> y.giveBack());
        isChange("clearRings without a ring", x, y -> y.clearRings());
        isChange("pass of no day", x, y -> y.pass(0));
        isChange("read of no day", x, y -> Check.read(y, "n0;n00;n000;"));
        x.clear();
        x.setRate(3, 900);
        x.setTier(3, 100);
        x.call(1);
        x.takeFees();
        x.clearRings();
        x.pass(0);
        Check.due("six changes of nothing", x.undo(), 5);
    }

    private static void exceptionsAreNoChanges() {
        Check.sentence("that returns without an exception");
        ArbitrationFees x = Check.withParties(0, 1);
        Step[] steps = {y -> y.addParty(2, 1), y -> y.setRate(4, 1), y -> y.setTier(4, 1), y -> y.claim(0, 0, 1),
            y -> y.award(0, 1), y -> y.dismiss(0, 1), y -> y.withdraw(0, 1), y -> y.call(0), y -> y.pay(0, 0),
            y -> y.payFor(0, 1), y -> y.giveBack(), y -> y.settle(0, 1, 1), y -> y.offset(0, 1), y -> y.pass(-1),
            y -> y.read(), y -> y.restore(), y -> y.entry(0, true), y -> y.ring(0), y -> y.quota(0)};
        for (int i = 0; i < steps.length; i++) {
            boolean isThrown = false;
            try {
                steps[i].take(x);
            } catch (RuntimeException e) {
                isThrown = true;
            }
            Check.due("an exception of step " + i, isThrown ? 1 : 0, 1);
        }
        Check.due("just the two changes before", Answers.undoAll(x), 2);
    }

    private static void questionsAreNoChanges() {
        Check.sentence("Methods whose documentation does not mention a change only answer a question.");
        ArbitrationFees x = Check.withParties(0, 1);
        x.goOn();
        Check.owe(x, 0, 1, 9000);
        Check.owe(x, 1, 0, 9000);
        x.call(1001);
        String before = Answers.of(x);
        Answers.of(x);
        x.growsTo(0, 9001);
        x.wouldBe(5);
        x.quota(0);
        Check.dueText("the answers stay", Answers.of(x), before);
        Check.due("the changes stay", x.undo(), 5);
    }

    private static void otherCallsAreNoChanges() {
        Check.sentence("A change is a call of addParty");
        ArbitrationFees x = afterDays(3);
        x.save();
        x.append('g');
        Check.thrown("reason", Check.NONE, () -> x.reason());
        Check.due("undo()", x.undo(), 2);
    }

    // ---- promise 39

    private static void saving() {
        saveOfNothing();
        saveReplaces();
        saveIsACopy();
        savedIsAllThatIsRemembered();
    }

    private static void saveOfNothing() {
        Check.promise(39, "Returns the number of claims.");
        ArbitrationFees x = new ArbitrationFees();
        Check.due("save()", x.save(), 0);
        x.addParty(0, 1);
        Check.due("restore()", x.restore(), 0);
        Check.due("parties", x.account(0), 0);
        ArbitrationFees full = Check.withParties(0, 1);
        for (int i = 0; i < 12; i++) {
            Check.due("save()", full.save(), i);
            full.claim(0, 1, 5);
        }
        Check.due("save() of twelve", full.save(), 12);
        full.clear();
        Check.due("restore() of twelve", full.restore(), 12);
    }

    private static void saveReplaces() {
        Check.promise(39, "What was saved before is replaced.");
        ArbitrationFees x = Check.withParties(0, 1);
        x.claim(0, 1, 5);
        Check.due("save()", x.save(), 1);
        x.clear();
        Check.due("save() of an empty one", x.save(), 0);
        x.addParty(0, 1);
        Check.due("restore()", x.restore(), 0);
        Check.due("parties", x.account(0), 0);
    }

    private static void saveIsACopy() {
        Check.promise(40, "Restores what was saved. It stays saved.");
        ArbitrationFees x = Check.withParties(0, 1);
        x.goOn();
        Check.owe(x, 0, 1, 9000);
        x.call(100);
        x.save();
        String before = Answers.of(x);
        for (int i = 0; i < 3; i++) {
            x.pass(5);
            x.settle(0, 1, 9000);
            x.payFor(0, 1);
            x.claim(1, 0, 5);
            x.addParty(1, 3);
            x.setTier(0, 7);
            x.goOn();
            Check.due("restore()", x.restore(), 1);
            Check.dueText("as it was saved", Answers.of(x), before);
        }
    }

    private static void savedIsAllThatIsRemembered() {
        Check.promise(39, "Saves all that the history remembers for a change.");
        ArbitrationFees x = Check.withParties(0, 1);
        x.setRate(1, 2000);
        x.setTier(0, 2000);
        x.pay(0, 5);
        x.pass(5);
        x.goOn();
        x.save();
        String before = Answers.of(x);
        x.clear();
        x.restore();
        Check.dueText("as it was saved", Answers.of(x), before);
        Check.due("rate of stage 1", x.setRate(1, 0), 2000);
        Check.due("rate of tier 0", x.setTier(0, 0), 2000);
    }

    // ---- promise 40

    private static void restoring() {
        nothingSaved();
        restoreKeepsSomeThings();
        restoreForgetsChanges();
    }

    private static void nothingSaved() {
        Check.promise(40, "Throws IllegalStateException if nothing was saved");
        ArbitrationFees x = Check.withParties(0, 1);
        Check.thrown("restore()", Check.STATE, () -> x.restore());
        x.clear();
        Check.thrown("restore() behind clear", Check.STATE, () -> x.restore());
        Check.due("save()", x.save(), 0);
        Check.due("restore()", x.restore(), 0);
        Check.due("restore() again", x.restore(), 0);
    }

    private static void restoreKeepsSomeThings() {
        Check.promise(39, "Saves all that the history remembers for a change.");
        ArbitrationFees x = Check.withParties(0, 1);
        Check.type(x, "x");
        x.save();
        Check.thrown("read", Check.ARGUMENT, () -> x.read());
        Check.thrown("giveBack", Check.REFUSED, () -> x.giveBack());
        Check.type(x, "n7");
        x.restore();
        Check.due("reason", x.reason(), 6);
        Check.due("error position", x.errorPosition(), 0);
        Check.due("input", x.append(';'), 3);
        Check.due("read()", x.read(), 1);
        Check.due("day", x.account(8), 7);
    }

    private static void restoreForgetsChanges() {
        Check.sentence("clear and restore forget all of them.");
        ArbitrationFees x = afterDays(3);
        x.save();
        x.restore();
        Check.thrown("nothing to undo", Check.NONE, () -> x.undo());
        undoesTo(x, 0, 3);
        for (int i = 0; i < 7; i++) {
            x.pass(1);
        }
        undoesTo(x, 6, 4);
    }

    // ---- how long an object is used

    private static void callsOfAnObject() {
        Check.sentence("An object is used for at most 512 calls after it has been made");
        ArbitrationFees payer = Check.withParties(0, 1);
        for (int i = 1; i <= 509; i++) {
            Check.due("pay", payer.pay(0, 100000000), i * 100000000L);
        }
        // two calls before and 509 of pay: the next one is the 512th
        Check.due("the last call", payer.account(4), 50900000000L);
    }
}
