/** Promises 35 to 40. */
public final class TextsAndHistoryTest {
    public static void main(String[] args) {
        promise35Append();
        promise36Read();
        promise36EachKind();
        promise36NothingOfIt();
        promise36NumbersAndSpans();
        promise36OneChange();
        promise37ErrorPositions();
        promise37Kept();
        promise38Undo();
        promise38Changes();
        promise38Rates();
        promise38NoChanges();
        promise39Save();
        promise40Restore();
        promise40OtherRows();
        Check.end();
    }

    private static void promise35Append() {
        ArbitrationFees x = new ArbitrationFees();
        Check.thrown("code 31", Check.ARGUMENT, () -> x.append((char) 31));
        Check.thrown("code 127", Check.ARGUMENT, () -> x.append((char) 127));
        Check.thrown("code 0", Check.ARGUMENT, () -> x.append((char) 0));
        Check.thrown("code 65535", Check.ARGUMENT, () -> x.append((char) 65535));
        Check.due("code 32", x.append((char) 32), 1);
        Check.due("code 126", x.append((char) 126), 2);
        for (int i = 3; i <= 70; i++) {
            Check.due("append", x.append('g'), i);
        }
        Check.thrown("a character more", Check.STATE, () -> x.append('g'));
        Check.thrown("a wrong character more", Check.ARGUMENT, () -> x.append((char) 127));
        Check.thrown("append is no change", Check.NONE, () -> x.undo());
        Check.thrown("read", Check.ARGUMENT, () -> x.read());
        Check.due("append after read", x.append('g'), 1);
    }

    private static void promise36Read() {
        ArbitrationFees x = Check.withParties(0, 1);
        Check.due("read", Check.read(x, "c0>1:900;c1>0:800;g;a0:300;a1:200;"), 5);
        Check.due("claims", x.account(1), 2);
        Check.due("stage", x.account(9), 1);
        Check.due("owed", x.owed(1, 0), 300);
        Check.due("owed", x.owed(0, 1), 200);
        Check.due("input is empty", x.append('g'), 1);
        x.append(';');
        Check.due("read", x.read(), 1);
        Check.due("stage", x.account(9), 2);
        Check.thrown("the empty text", Check.ARGUMENT, () -> x.read());
    }

    private static void promise36EachKind() {
        ArbitrationFees x = Check.withParties(0, 1);
        Check.due("c", Check.read(x, "c0>1:1000;"), 1);
        Check.due("w", Check.read(x, "w0:100;"), 1);
        Check.due("withdrawn", x.claimed(0, 5), 100);
        Check.due("g", Check.read(x, "g;"), 1);
        Check.due("a", Check.read(x, "a0:500;"), 1);
        Check.due("awarded", x.claimed(0, 3), 500);
        Check.due("d", Check.read(x, "d0:40;"), 1);
        Check.due("dismissed", x.claimed(0, 4), 40);
        Check.due("p", Check.read(x, "p1:77;"), 1);
        Check.due("paid", x.party(1, 3), 77);
        Check.due("n", Check.read(x, "n180;"), 1);
        Check.due("day", x.account(8), 180);
        Check.due("interest", x.owed(1, 0), 510);
        Check.due("s", Check.read(x, "s1>0:60;"), 1);
        Check.due("settled", x.owed(1, 0), 450);
        int[] kinds = {3, 1, 2, 5, 8};
        long[] amounts = {100, 500, 40, 77, 60};
        for (int i = 0; i < 5; i++) {
            Check.due("kind", x.entry(i, false), kinds[i]);
            Check.due("amount", x.entry(i, true), amounts[i]);
        }
    }

    /** A text that is right, and cannot be done: nothing of it stays. */
    private static void cannotBeDone(String text, int reason) {
        ArbitrationFees x = Check.withParties(0, 1, 1);
        x.claim(0, 1, 1000);
        Check.type(x, "p0:5;" + text);
        Check.thrown(text, Check.STATE, () -> x.read());
        Check.due("nothing paid behind " + text, x.account(4), 0);
        Check.due("claims behind " + text, x.account(1), 1);
        Check.due("stage behind " + text, x.account(9), 0);
        Check.due("day behind " + text, x.account(8), 0);
        Check.thrown("no entry behind " + text, Check.NONE, () -> x.entry(0, true));
        Check.thrown("no error position behind " + text, Check.NONE, () -> x.errorPosition());
        if (reason == 0) {
            Check.thrown("no reason behind " + text, Check.NONE, () -> x.reason());
        } else {
            Check.due("reason behind " + text, x.reason(), reason);
        }
        Check.due("the input is empty behind " + text, x.append('g'), 1);
        Check.due("no change behind " + text, x.undo(), 3);
        Check.due("no change behind " + text, x.account(1), 0);
    }

    private static void promise36NothingOfIt() {
        cannotBeDone("a0:1;", 1);
        cannotBeDone("d0:1001;", 1);
        cannotBeDone("g;g;w0:1;", 2);
        cannotBeDone("w0:1001;", 3);
        cannotBeDone("g;a0:600;d0:401;", 3);
        cannotBeDone("s0>1:1;", 4);
        cannotBeDone("s0>0:1;", 4);
        cannotBeDone("g;a0:600;s1>0:601;", 4);
        cannotBeDone("a1:1;", 0);
        cannotBeDone("d999:1;", 0);
        cannotBeDone("w0:0;", 0);
        cannotBeDone("g;a0:0;", 0);
        cannotBeDone("s0>1:0;", 0);
        cannotBeDone("s3>1:1;", 0);
        cannotBeDone("c1>2:5;", 0);
        cannotBeDone("c0>9:5;", 0);
        cannotBeDone("c0>1:0;", 0);
        cannotBeDone("c0>1:100000001;", 0);
        cannotBeDone("c0>1:5;g;g;g;c0>1:5;", 0);
        cannotBeDone("p3:5;", 0);
        cannotBeDone("p0:0;", 0);
        cannotBeDone("p0:999999999;", 0);
        cannotBeDone("g;g;g;g;", 0);
        cannotBeDone("n999;n999;n999;n654;", 0);
    }

    private static void promise36NumbersAndSpans() {
        ArbitrationFees x = Check.withParties(0, 1);
        Check.due("zeros at the front", Check.read(x, "c0>1:000000012;w000:000000002;n007;p1:03;"), 4);
        Check.due("the claim", x.claimed(0, 6), 10);
        Check.due("the day", x.account(8), 7);
        Check.due("paid", x.party(1, 3), 3);
        Check.due("n0", Check.read(x, "n000;n0;"), 2);
        Check.due("the largest days", Check.read(x, "n999;"), 1);
        Check.due("the largest amount", Check.read(x, "c1>0:100000000;"), 1);
        Check.due("a claim of two digits", Check.read(x, "w01:1;"), 1);
        Check.due("seventy characters", Check.read(x, "n0;n0;n0;n0;n0;n0;n0;n0;n0;n0;n0;n0;n0;n0;n0;n0;n0;n0;n0;n0;"
                + "n0;n0;n00;"), 23);
        StringBuilder most = new StringBuilder();
        for (int i = 0; i < 35; i++) {
            most.append("g;");
        }
        Check.type(x, most.toString());
        Check.thrown("35 entries", Check.STATE, () -> x.read());
        for (int i = 2; i < 12; i++) {
            x.claim(0, 1, 9);
        }
        Check.due("claim 11", Check.read(x, "w11:4;"), 1);
        Check.due("claim 11", x.claimed(11, 6), 5);
    }

    private static void promise36OneChange() {
        ArbitrationFees x = Check.withParties(0, 1);
        Check.read(x, "c0>1:9;c0>1:8;g;");
        Check.due("undo", x.undo(), 2);
        Check.due("claims", x.account(1), 0);
        Check.due("stage", x.account(9), 0);
        for (int i = 0; i < 6; i++) {
            x.pass(1);
        }
        Check.type(x, "n1;a0:1;");
        Check.thrown("read", Check.STATE, () -> x.read());
        Check.due("six changes are still remembered", x.undo(), 5);
        Check.due("the day", x.account(8), 5);
        Check.type(x, "n1;x");
        Check.thrown("read", Check.ARGUMENT, () -> x.read());
        for (int i = 4; i >= 0; i--) {
            Check.due("undo", x.undo(), i);
            Check.due("the day", x.account(8), i);
        }
    }

    private static void errorAt(String text, int due) {
        ArbitrationFees x = Check.withParties(0, 1);
        x.claim(0, 1, 100);
        Check.type(x, text);
        Check.thrown("read " + text, Check.ARGUMENT, () -> x.read());
        Check.due("errorPosition of " + text, x.errorPosition(), due);
        Check.due("nothing is done of " + text, x.account(8) + x.account(9) + x.account(4), 0);
        Check.due("the input is empty", x.append('g'), 1);
    }

    private static void promise37ErrorPositions() {
        String[] ends = {"", "g", "c", "c0", "c0>", "c0>1", "c0>1:", "c0>1:1", "c0>1:123456789", "a", "a1", "a12", "a123",
            "a123:", "d1:1", "w", "p", "p0", "p0:", "p0:1", "s", "s1>0:5", "n", "n1", "n123", "g;g", "g;n1", "n1;p0:1;c"};
        for (String text : ends) {
            errorAt(text, text.length());
        }
        // behind each of these, the last character is the wrong one
        String[] wrong = {" ", "x", ";", "0", "G", "C", ":", "g1", "gg", "g:", "c;", "c>", "cc", "c00", "c0:", "c0;", "c0>>",
            "c0>:", "c0>00", "c0>0;", "c0>0>", "c0>1::", "c0>1:;", "c0>1:1:", "c0>1:1g", "c0>1:1234567890", "a:", "a;", "a>",
            "a1;", "a1>", "a1234", "a123;", "a1:a", "a1:;", "a1:123456789:", "a1:1234567890", "d:", "d1234", "w:", "w1;",
            "p;", "p:", "p00", "p0;", "p0>", "p0:;", "p0:-", "p0:0000000000", "s:", "s00", "s0:", "s0>;", "s0>10", "s0>1;",
            "n;", "n-", "n1:", "n1234", "n123g", "g;;", "g; ", "n1;1", "n1; n", "c0>1:1;a0:1;;", "~", "n12 ", "b", "h", "f",
            "o", "m", "q", "r", "t", "v", "e", "/", "n/", "n1/", "g<", "c0=", "c0?", "c0>1;", "p0;1", "a0:+"};
        for (String text : wrong) {
            int due = text.equals("n1; n") ? 3 : text.equals("p0;1") ? 2 : text.length() - 1;
            errorAt(text, due);
            errorAt(text + ";", due);
            errorAt(text + "g;", due);
        }
        StringBuilder full = new StringBuilder();
        for (int i = 0; i < 34; i++) {
            full.append("g;");
        }
        errorAt(full + "n1", 70);
        errorAt(full + "g0", 69);
    }

    private static void promise37Kept() {
        ArbitrationFees x = new ArbitrationFees();
        Check.thrown("none yet", Check.NONE, () -> x.errorPosition());
        Check.type(x, "g;n");
        Check.thrown("wrong", Check.ARGUMENT, () -> x.read());
        Check.due("kept", x.errorPosition(), 3);
        Check.due("right", Check.read(x, "g;"), 1);
        Check.due("still kept", x.errorPosition(), 3);
        Check.type(x, "a0:1;");
        Check.thrown("cannot be done", Check.STATE, () -> x.read());
        Check.due("still kept", x.errorPosition(), 3);
        x.undo();
        x.save();
        x.restore();
        Check.due("still kept", x.errorPosition(), 3);
        Check.thrown("the empty text", Check.ARGUMENT, () -> x.read());
        Check.due("kept anew", x.errorPosition(), 0);
    }

    private static void promise38Undo() {
        ArbitrationFees x = new ArbitrationFees();
        Check.thrown("nothing to undo", Check.NONE, () -> x.undo());
        for (int i = 0; i < 9; i++) {
            x.pass(1);
        }
        for (int i = 5; i >= 0; i--) {
            Check.due("undo", x.undo(), i);
            Check.due("the day", x.account(8), 3 + i);
        }
        Check.thrown("the oldest ones are forgotten", Check.NONE, () -> x.undo());
        Check.due("the day", x.account(8), 3);
        x.pass(10);
        x.pass(20);
        Check.due("undo", x.undo(), 1);
        x.pass(5);
        Check.due("undo", x.undo(), 1);
        Check.due("undo", x.undo(), 0);
        Check.due("the day", x.account(8), 3);
        Check.thrown("nothing more", Check.NONE, () -> x.undo());
    }

    private static void promise38Rates() {
        ArbitrationFees x = new ArbitrationFees();
        for (int i = 0; i < 4; i++) {
            int before = x.setRate(i, 11 + i);
            x.undo();
            Check.due("the rate is undone", x.setRate(i, 22 + i), before);
            int tier = x.setTier(i, 33 + i);
            x.undo();
            Check.due("the rate of a tier is undone", x.setTier(i, 44 + i), tier);
        }
        x.save();
        x.clear();
        x.restore();
        for (int i = 0; i < 4; i++) {
            Check.due("the rate is saved", x.setRate(i, 0), 22 + i);
            Check.due("the rate of a tier is saved", x.setTier(i, 0), 44 + i);
        }
    }

    private interface Step {
        void take(ArbitrationFees x);
    }

    private static ArbitrationFees halfWay() {
        ArbitrationFees x = Check.withParties(0, 1);
        x.setTier(0, 1500);
        x.goOn();
        Check.owe(x, 0, 1, 500);
        Check.owe(x, 1, 0, 200);
        x.claim(0, 1, 1000);
        x.call(1000);
        x.pay(0, 3000);
        x.pass(100);
        x.save();
        x.restore();
        return x;
    }

    private static void isOneChange(String call, Step step) {
        ArbitrationFees x = halfWay();
        String before = Answers.of(x);
        step.take(x);
        Check.due("changes of " + call, Answers.undoAll(x), 1);
        Check.dueText(call + " is undone", Answers.of(x), before);
        step.take(x);
        String after = Answers.of(x);
        x.save();
        x.clear();
        x.restore();
        Check.dueText(call + " is saved", Answers.of(x), after);
    }

    private static void promise38Changes() {
        isOneChange("addParty", x -> x.addParty(1, 4));
        isOneChange("setRate", x -> x.setRate(1, 700));
        isOneChange("setRate to the same", x -> x.setRate(1, 400));
        isOneChange("setTier", x -> x.setTier(2, 700));
        isOneChange("claim", x -> x.claim(1, 0, 33));
        isOneChange("award", x -> x.award(2, 600));
        isOneChange("dismiss", x -> x.dismiss(2, 600));
        isOneChange("withdraw", x -> x.withdraw(2, 600));
        isOneChange("call", x -> x.call(33));
        isOneChange("pay", x -> x.pay(1, 44));
        isOneChange("payFor", x -> x.payFor(0, 1));
        isOneChange("takeFees", x -> x.takeFees());
        isOneChange("settle", x -> x.settle(0, 1, 100));
        isOneChange("settle all", x -> x.settle(0, 1, 505));
        isOneChange("offset", x -> x.offset(0, 1));
        isOneChange("clearRings", x -> x.clearRings());
        isOneChange("pass", x -> x.pass(55));
        isOneChange("pass(0)", x -> x.pass(0));
        isOneChange("goOn", x -> x.goOn());
        isOneChange("read", x -> Check.read(x, "d2:5;a2:7;w2:9;p1:5;s0>1:3;n9;g;g;"));
        ArbitrationFees last = Check.withParties(0, 1);
        last.goOn();
        last.goOn();
        last.goOn();
        last.pay(0, 500);
        last.save();
        last.restore();
        last.giveBack();
        Check.due("returned", last.account(6), 500);
        Check.due("giveBack is a change", last.undo(), 0);
        Check.due("returned", last.account(6), 0);
    }

    private static void isNoChange(String call, Step step) {
        ArbitrationFees x = halfWay();
        String before = Answers.of(x);
        try {
            step.take(x);
        } catch (RuntimeException e) {
            // what is thrown is asked elsewhere
        }
        Check.dueText(call + " leaves all", Answers.of(x), before);
        Check.due("changes of " + call, Answers.undoAll(x), 0);
    }

    private static void promise38NoChanges() {
        isNoChange("a wrong party", x -> x.addParty(2, 1));
        isNoChange("a wrong rate", x -> x.setRate(0, 2001));
        isNoChange("a wrong tier", x -> x.setTier(0, 2001));
        isNoChange("a wrong claim", x -> x.claim(0, 1, 0));
        isNoChange("a refused award", x -> x.award(2, 1001));
        isNoChange("a refused dismissal", x -> x.dismiss(2, 1001));
        isNoChange("a refused withdrawal", x -> x.withdraw(2, 1001));
        isNoChange("a wrong call", x -> x.call(0));
        isNoChange("a wrong payment", x -> x.pay(0, 0));
        isNoChange("a wrong payment for another", x -> x.payFor(1, 0));
        isNoChange("a refused return", x -> x.giveBack());
        isNoChange("a refused settlement", x -> x.settle(0, 1, 100000));
        isNoChange("a wrong offset", x -> x.offset(0, 0));
        isNoChange("a wrong number of days", x -> x.pass(1000));
        isNoChange("a wrong text", x -> Check.read(x, "n5;x"));
        isNoChange("a text that cannot be done", x -> Check.read(x, "n5;g;g;g;"));
        isNoChange("save", x -> x.save());
        isNoChange("append", x -> x.append('x'));
        isNoChange("questions", x -> {
            x.ring(0);
            x.growsTo(0, 505);
            x.quota(0);
            x.net(0);
        });
    }

    private static void promise39Save() {
        ArbitrationFees x = Check.withParties(0, 1);
        Check.due("save()", x.save(), 0);
        x.claim(0, 1, 5);
        x.claim(0, 1, 6);
        Check.due("restore()", x.restore(), 0);
        x.claim(0, 1, 7);
        Check.due("save() replaces", x.save(), 1);
        Check.due("save is no change", x.undo(), 0);
        Check.due("claims", x.account(1), 0);
        Check.due("restore()", x.restore(), 1);
        Check.due("the claim", x.claimed(0, 2), 7);
        Check.thrown("undo after restore", Check.NONE, () -> x.undo());
        x.pay(0, 3);
        x.clear();
        Check.due("restore() after clear", x.restore(), 1);
        Check.due("what came after it is not saved", x.account(4), 0);
    }

    private static void promise40OtherRows() {
        ArbitrationFees x = new ArbitrationFees();
        x.addParty(0, 2);
        x.addParty(1, 3);
        x.claim(1, 0, 40);
        x.save();
        x.clear();
        x.addParty(1, 5);
        x.addParty(0, 6);
        x.addParty(1, 7);
        x.claim(0, 1, 70);
        x.claim(1, 2, 80);
        x.restore();
        Check.due("parties", x.account(0), 2);
        Check.due("sides", x.party(0, 0) * 10 + x.party(1, 0), 1);
        Check.due("weights", x.party(0, 1) * 10 + x.party(1, 1), 23);
        Check.due("claims", x.account(1), 1);
        Check.due("of whom", x.claimed(0, 0), 1);
        Check.due("against whom", x.claimed(0, 1), 0);
        Check.due("amount", x.claimed(0, 2), 40);
    }

    private static void promise40Restore() {
        ArbitrationFees x = Check.withParties(0, 1);
        x.claim(0, 1, 100);
        Check.thrown("nothing saved", Check.STATE, () -> x.restore());
        Check.due("a failed restore forgets nothing", x.undo(), 2);
        x.claim(0, 1, 100);
        x.save();
        Check.thrown("award", Check.REFUSED, () -> x.award(0, 1));
        Check.type(x, "gg");
        Check.thrown("gg", Check.ARGUMENT, () -> x.read());
        Check.type(x, "g;");
        x.goOn();
        x.award(0, 60);
        Check.due("restore()", x.restore(), 1);
        Check.due("stage", x.account(9), 0);
        Check.due("left", x.account(10), 100);
        Check.due("debts", x.account(2), 0);
        Check.due("the reason stays", x.reason(), 1);
        Check.due("the error position stays", x.errorPosition(), 1);
        Check.due("the input stays", x.read(), 1);
        Check.due("stage", x.account(9), 1);
        x.award(0, 30);
        Check.due("it stays saved", x.restore(), 1);
        Check.due("left", x.account(10), 100);
        Check.thrown("the history is forgotten", Check.NONE, () -> x.undo());
    }
}
