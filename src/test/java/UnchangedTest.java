import java.util.ArrayList;
import java.util.List;

/**
 * "A method that throws an exception leaves the state unchanged, unless its documentation says otherwise", and "If
 * several exceptions apply, the one that is documented first is thrown": each method with each of its exceptions.
 */
public final class UnchangedTest {
    private static final int MOST = Check.MOST;

    private interface Step {
        void take(ArbitrationFees x);
    }

    private final List<String> names = new ArrayList<>();
    private final List<Class<?>> wants = new ArrayList<>();
    private final List<Step> steps = new ArrayList<>();

    public static void main(String[] args) {
        Check.sentence("A method that throws an exception leaves the state unchanged, unless its documentation says otherwise.");
        UnchangedTest test = new UnchangedTest();
        test.addChanges();
        test.addRulings();
        test.addDeposits();
        test.addDebts();
        test.addQuestions();
        for (int i = 0; i < test.steps.size(); i++) {
            leavesAll(test.names.get(i), test.wants.get(i), test.steps.get(i));
        }
        emptyObjectIsLeft();
        lastStageIsLeft();
        Check.end();
    }

    private static void emptyObjectIsLeft() {
        ArbitrationFees x = new ArbitrationFees();
        Check.thrown("reason()", Check.NONE, () -> x.reason());
        Check.thrown("errorPosition()", Check.NONE, () -> x.errorPosition());
        Check.thrown("undo()", Check.NONE, () -> x.undo());
        Check.thrown("restore()", Check.STATE, () -> x.restore());
        Check.thrown("quota(0)", Check.ARITHMETIC, () -> x.quota(0));
        Check.dueText("all is left", Answers.of(x), Answers.of(new ArbitrationFees()));
        Check.dueText("nothing is kept", Answers.kept(x), "0 -1");
    }

    private static void lastStageIsLeft() {
        ArbitrationFees x = rich();
        x.goOn();
        String before = Answers.of(x);
        Check.thrown("goOn()", Check.STATE, () -> x.goOn());
        Check.dueText("all is left", Answers.of(x), before);
        Check.due("the history is left", x.undo(), 5);
        Check.due("the stage", x.account(9), 2);
    }

    private void add(String name, Class<?> want, Step step) {
        names.add(name);
        wants.add(want);
        steps.add(step);
    }

    /** Six parties, twelve claims, three debts, stage 2, day 3600, a full input and history, something saved. */
    private static ArbitrationFees rich() {
        ArbitrationFees x = Check.withParties(0, 1, 0, 1, 0, 1);
        for (int i = 0; i < 12; i++) {
            x.claim(i % 2, 1 - i % 2, 1000 + i);
        }
        x.goOn();
        x.award(0, 500);
        x.award(1, 300);
        x.dismiss(2, 70);
        x.withdraw(3, 9);
        x.call(6001);
        x.pay(0, 400);
        x.payFor(2, 1);
        x.save();
        Check.thrown("offset", Check.REFUSED, () -> x.offset(2, 3));
        Check.thrown("read", Check.ARGUMENT, () -> Check.read(x, "g;x"));
        x.goOn();
        x.pass(900);
        x.pass(900);
        x.pass(900);
        x.pass(900);
        x.takeFees();
        x.setRate(2, 1234);
        for (int i = 0; i < 70; i++) {
            x.append('x');
        }
        return x;
    }

    private static void leavesAll(String name, Class<?> want, Step step) {
        ArbitrationFees x = rich();
        String before = Answers.of(x);
        String kept = Answers.kept(x);
        Check.thrown(name, want, () -> step.take(x));
        Check.dueText("all is left by " + name, Answers.of(x), before);
        if (want != Check.REFUSED) {
            Check.dueText("reason and error position are left by " + name, Answers.kept(x), kept);
        }
        Check.thrown("the input is left by " + name, Check.STATE, () -> x.append('x'));
        Check.due("the history is left by " + name, x.undo(), 5);
        Check.due("the latest change is still setRate behind " + name, x.setRate(2, 5), 600);
        Check.due("what was saved is left by " + name, x.restore(), 12);
        Check.due("what was saved is left by " + name, x.account(9), 1);
    }

    private void addChanges() {
        add("addParty(2, 1)", Check.ARGUMENT, x -> x.addParty(2, 1));
        add("addParty(0, 10)", Check.ARGUMENT, x -> x.addParty(0, 10));
        add("addParty(0, 1)", Check.STATE, x -> x.addParty(0, 1));
        add("setRate(4, 2001)", Check.INDEX, x -> x.setRate(4, 2001));
        add("setRate(2, 2001)", Check.ARGUMENT, x -> x.setRate(2, 2001));
        add("setTier(4, 2001)", Check.INDEX, x -> x.setTier(4, 2001));
        add("setTier(2, 2001)", Check.ARGUMENT, x -> x.setTier(2, 2001));
        add("claim(0, 6, 0)", Check.INDEX, x -> x.claim(0, 6, 0));
        add("claim(6, 0, 0)", Check.INDEX, x -> x.claim(6, 0, 0));
        add("claim(0, 2, 5)", Check.ARGUMENT, x -> x.claim(0, 2, 5));
        add("claim(0, 1, 0)", Check.ARGUMENT, x -> x.claim(0, 1, 0));
        add("claim(0, 1, 5)", Check.STATE, x -> x.claim(0, 1, 5));
        add("pass(1000)", Check.ARGUMENT, x -> x.pass(1000));
        add("pass(51)", Check.STATE, x -> x.pass(51));
    }

    private void addRulings() {
        add("award(12, 0)", Check.INDEX, x -> x.award(12, 0));
        add("award(0, 0)", Check.ARGUMENT, x -> x.award(0, 0));
        add("award(0, 501)", Check.REFUSED, x -> x.award(0, 501));
        add("dismiss(12, 0)", Check.INDEX, x -> x.dismiss(12, 0));
        add("dismiss(0, 0)", Check.ARGUMENT, x -> x.dismiss(0, 0));
        add("dismiss(0, 501)", Check.REFUSED, x -> x.dismiss(0, 501));
        add("withdraw(12, 0)", Check.INDEX, x -> x.withdraw(12, 0));
        add("withdraw(0, 0)", Check.ARGUMENT, x -> x.withdraw(0, 0));
        add("withdraw(0, 1)", Check.REFUSED, x -> x.withdraw(0, 1));
        add("withdraw(0, 501)", Check.REFUSED, x -> x.withdraw(0, 501));
    }

    private void addDeposits() {
        add("call(0)", Check.ARGUMENT, x -> x.call(0));
        add("call(100000001)", Check.ARGUMENT, x -> x.call(100000001));
        add("pay(6, 0)", Check.INDEX, x -> x.pay(6, 0));
        add("pay(0, 0)", Check.ARGUMENT, x -> x.pay(0, 0));
        add("payFor(6, 6)", Check.INDEX, x -> x.payFor(6, 6));
        add("payFor(3, 3)", Check.ARGUMENT, x -> x.payFor(3, 3));
        add("payFor(2, 1)", Check.STATE, x -> x.payFor(2, 1));
        add("giveBack()", Check.REFUSED, x -> x.giveBack());
    }

    private void addDebts() {
        add("settle(6, 0, 0)", Check.INDEX, x -> x.settle(6, 0, 0));
        add("settle(0, 6, 0)", Check.INDEX, x -> x.settle(0, 6, 0));
        add("settle(0, 1, 0)", Check.ARGUMENT, x -> x.settle(0, 1, 0));
        add("settle(0, 0, 1)", Check.REFUSED, x -> x.settle(0, 0, 1));
        add("settle(0, 1, most)", Check.REFUSED, x -> x.settle(0, 1, MOST));
        add("offset(6, 6)", Check.INDEX, x -> x.offset(6, 6));
        add("offset(3, 3)", Check.ARGUMENT, x -> x.offset(3, 3));
        add("offset(2, 1)", Check.REFUSED, x -> x.offset(2, 1));
        add("growsTo(3, 0)", Check.INDEX, x -> x.growsTo(3, 0));
        add("growsTo(0, 0)", Check.ARGUMENT, x -> x.growsTo(0, 0));
        add("growsTo(0, 1000000000)", Check.NONE, x -> x.growsTo(0, 1000000000));
    }

    private void addQuestions() {
        add("party(6, 11)", Check.INDEX, x -> x.party(6, 11));
        add("party(0, 11)", Check.ARGUMENT, x -> x.party(0, 11));
        add("claimed(12, 7)", Check.INDEX, x -> x.claimed(12, 7));
        add("claimed(0, 7)", Check.ARGUMENT, x -> x.claimed(0, 7));
        add("fees(4)", Check.INDEX, x -> x.fees(4));
        add("wouldBe(0)", Check.ARGUMENT, x -> x.wouldBe(0));
        add("side(2, 4)", Check.INDEX, x -> x.side(2, 4));
        add("side(0, 4)", Check.ARGUMENT, x -> x.side(0, 4));
        add("owed(0, 6)", Check.INDEX, x -> x.owed(0, 6));
        add("debt(3, 5)", Check.INDEX, x -> x.debt(3, 5));
        add("debt(0, 5)", Check.ARGUMENT, x -> x.debt(0, 5));
        add("ring(2)", Check.NONE, x -> x.ring(2));
        add("net(6)", Check.INDEX, x -> x.net(6));
        add("account(12)", Check.ARGUMENT, x -> x.account(12));
        add("entry(16, true)", Check.NONE, x -> x.entry(16, true));
        add("quota(2)", Check.INDEX, x -> x.quota(2));
        add("append(127)", Check.ARGUMENT, x -> x.append((char) 127));
        add("append(x)", Check.STATE, x -> x.append('x'));
    }
}
