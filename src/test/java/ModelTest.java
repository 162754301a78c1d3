import java.util.function.Supplier;

/** All promises: long runs of calls, the same ones of the program and of the model, with the same answers. */
public final class ModelTest {
    private static final int RUNS = 1500;
    private static final int CALLS = 512;
    private static final String SIGNS = "cadwpsng0123456789>:; x~";

    private final int run;
    private long seed;
    private final ArbitrationFees program = new ArbitrationFees();
    private final Model model = new Model();
    private int calls = 0;
    private String lastCalls = "";

    private ModelTest(int run) {
        this.run = run;
        this.seed = run * 7919L + 17;
    }

    public static void main(String[] args) {
        for (int run = 0; run < RUNS; run++) {
            new ModelTest(run).go();
        }
        Check.end();
    }

    /** A number from 0 to below the bound; the same row of numbers each time. */
    private int pick(int bound) {
        seed = seed * 6364136223846793005L + 1442695040888963407L;
        return (int) ((seed >>> 33) % bound);
    }

    /** Mostly a number from least to most, sometimes just beside it or far away. */
    private int near(int least, int most) {
        switch (pick(60)) {
            case 0: return least - 1;
            case 1: return most + 1;
            case 2: return Integer.MIN_VALUE;
            case 3: return Integer.MAX_VALUE;
            case 4: return most;
            case 5: return least;
            default: return least + pick(most - least + 1);
        }
    }

    private int party() {
        return near(0, (int) Math.max(0, model.account(0) - 1));
    }

    private int claim() {
        return near(0, (int) Math.max(0, model.account(1) - 1));
    }

    private int debt() {
        return near(0, (int) Math.max(0, model.account(2) - 1));
    }

    private int amount() {
        int[] mosts = {9, 200, 5000, 100000, 4000000, 30000000, 100000000};
        return pick(12) == 0 ? near(1, 100000000) : 1 + pick(mosts[pick(mosts.length)]);
    }

    /** Often all that is left or owed, or one cent more. */
    private int part(long all) {
        switch (pick(6)) {
            case 0: return (int) all;
            case 1: return (int) all + 1;
            case 2: return near(1, (int) Math.max(1, Math.min(all, 1 << 30)));
            case 3: return amount();
            default: return 1 + pick((int) Math.max(1, Math.min(all, 1 << 30)));
        }
    }

    private static String answer(Supplier<Object> call) {
        try {
            return String.valueOf(call.get());
        } catch (RuntimeException e) {
            return e.getClass().getName();
        }
    }

    private void same(String call, Supplier<Object> ofProgram, Supplier<Object> ofModel) {
        calls++;
        lastCalls = lastCalls + " " + call;
        String got = answer(ofProgram);
        String due = answer(ofModel);
        Check.due("run " + run + " call " + calls, got.equals(due) ? 1 : 0, 1);
        if (!got.equals(due)) {
            System.out.println(call + " answered " + got + ", the model says " + due + " behind" + lastCalls);
            System.exit(1);
        }
    }

    private void go() {
        int parties = pick(7);
        for (int i = 0; i < parties; i++) {
            int side = parties == 2 ? i : pick(2);
            int weight = 1 + pick(9);
            same("addParty(" + side + "," + weight + ")", () -> program.addParty(side, weight),
                    () -> model.addParty(side, weight));
        }
        // some runs stay in an early stage for long, others ask a lot
        int change = 20 + pick(60);
        while (calls < CALLS) {
            if (pick(100) < change) {
                changeSomething();
            } else {
                askSomething();
            }
        }
    }

    private void changeSomething() {
        switch (pick(24)) {
            case 0: {
                int side = near(0, 1), weight = near(1, 9);
                same("addParty(" + side + "," + weight + ")", () -> program.addParty(side, weight),
                        () -> model.addParty(side, weight));
                return;
            }
            case 1: {
                int stage = near(0, 3), rate = near(0, 2000);
                same("setRate(" + stage + "," + rate + ")", () -> program.setRate(stage, rate),
                        () -> model.setRate(stage, rate));
                return;
            }
            case 2: {
                int tier = near(0, 3), rate = near(0, 2000);
                same("setTier(" + tier + "," + rate + ")", () -> program.setTier(tier, rate),
                        () -> model.setTier(tier, rate));
                return;
            }
            case 3:
            case 4: {
                int a = party(), b = party(), n = amount();
                same("claim(" + a + "," + b + "," + n + ")", () -> program.claim(a, b, n), () -> model.claim(a, b, n));
                return;
            }
            case 5:
            case 6: {
                int c = claim(), n = partOfClaim(c);
                same("award(" + c + "," + n + ")", () -> program.award(c, n), () -> model.award(c, n));
                return;
            }
            case 7: {
                int c = claim(), n = partOfClaim(c);
                same("dismiss(" + c + "," + n + ")", () -> program.dismiss(c, n), () -> model.dismiss(c, n));
                return;
            }
            case 8: {
                int c = claim(), n = partOfClaim(c);
                same("withdraw(" + c + "," + n + ")", () -> program.withdraw(c, n), () -> model.withdraw(c, n));
                return;
            }
            case 9: {
                int n = amount();
                same("call(" + n + ")", () -> program.call(n), () -> model.call(n));
                return;
            }
            case 10: {
                int a = party(), n = amount();
                same("pay(" + a + "," + n + ")", () -> program.pay(a, n), () -> model.pay(a, n));
                return;
            }
            case 11:
            case 12: {
                int a = party(), b = party();
                same("payFor(" + a + "," + b + ")", () -> program.payFor(a, b), () -> model.payFor(a, b));
                return;
            }
            case 13:
                same("takeFees()", () -> program.takeFees(), () -> model.takeFees());
                return;
            case 14:
                same("giveBack()", () -> program.giveBack(), () -> model.giveBack());
                return;
            default:
                changeDebtsOrPast();
        }
    }

    private int partOfClaim(int claim) {
        return claim >= 0 && claim < model.account(1) ? part(model.claimed(claim, 6)) : amount();
    }

    private void changeDebtsOrPast() {
        switch (pick(13)) {
            case 0:
            case 1: {
                int a = party(), b = party();
                boolean areThere = a >= 0 && b >= 0 && a < model.account(0) && b < model.account(0);
                int n = areThere ? part(model.owed(a, b)) : amount();
                same("settle(" + a + "," + b + "," + n + ")", () -> program.settle(a, b, n),
                        () -> model.settle(a, b, n));
                return;
            }
            case 2: {
                int a = party(), b = party();
                same("offset(" + a + "," + b + ")", () -> program.offset(a, b), () -> model.offset(a, b));
                return;
            }
            case 3:
                if (pick(3) == 0) {
                    same("clearRings()", () -> program.clearRings(), () -> model.clearRings());
                }
                return;
            case 4: {
                int n = pick(4) == 0 ? near(0, 999) : pick(40);
                same("pass(" + n + ")", () -> program.pass(n), () -> model.pass(n));
                return;
            }
            case 5:
                if (pick(run % 5 + 1) == 0) {
                    same("goOn()", () -> program.goOn(), () -> model.goOn());
                }
                return;
            case 6:
                same("save()", () -> program.save(), () -> model.save());
                return;
            case 7:
                if (pick(4) == 0) {
                    same("restore()", () -> program.restore(), () -> model.restore());
                }
                return;
            case 8:
                if (pick(30) == 0) {
                    same("clear()", () -> program.clear(), () -> model.clear());
                }
                return;
            case 9:
            case 10: {
                int times = pick(10) == 0 ? 8 : 1;
                for (int i = 0; i < times; i++) {
                    same("undo()", () -> program.undo(), () -> model.undo());
                }
                return;
            }
            default:
                readText();
        }
    }

    private String number(int most) {
        String zeros = "000".substring(pick(4) == 0 ? pick(3) : 3);
        return zeros + pick(most);
    }

    private String entryOfText() {
        String amount = number(pick(3) == 0 ? 1000000 : 200);
        switch (pick(9)) {
            case 0: return "c" + pick(3) + ">" + pick(3) + ":" + amount + ";";
            case 1: return "s" + pick(3) + ">" + pick(3) + ":" + amount + ";";
            case 2: return "a" + number(4) + ":" + amount + ";";
            case 3: return "d" + number(4) + ":" + amount + ";";
            case 4: return "w" + number(4) + ":" + amount + ";";
            case 5:
            case 6: return "p" + pick(3) + ":" + amount + ";";
            case 7: return "n" + number(40) + ";";
            default: return "g;";
        }
    }

    private void readText() {
        StringBuilder text = new StringBuilder();
        int entries = 1 + pick(3);
        for (int i = 0; i < entries; i++) {
            text.append(entryOfText());
        }
        int spoils = pick(3) == 0 ? 1 + pick(2) : 0;
        for (int i = 0; i < spoils && text.length() > 0; i++) {
            int at = pick(text.length());
            switch (pick(3)) {
                case 0: text.deleteCharAt(at); break;
                case 1: text.insert(at, SIGNS.charAt(pick(SIGNS.length()))); break;
                default: text.setCharAt(at, SIGNS.charAt(pick(SIGNS.length()))); break;
            }
        }
        for (int i = 0; i < text.length(); i++) {
            append(text.charAt(i));
        }
        if (pick(20) > 0) {
            same("read()", () -> program.read(), () -> model.read());
        }
    }

    private void append(char sign) {
        same("append(" + sign + ")", () -> program.append(sign), () -> model.append(sign));
    }

    private void askSomething() {
        switch (pick(20)) {
            case 0:
            case 1:
            case 2: {
                int a = party(), what = near(0, 10);
                same("party(" + a + "," + what + ")", () -> program.party(a, what), () -> model.party(a, what));
                return;
            }
            case 3: {
                int c = claim(), what = near(0, 6);
                same("claimed(" + c + "," + what + ")", () -> program.claimed(c, what), () -> model.claimed(c, what));
                return;
            }
            case 4:
                same("reason()", () -> program.reason(), () -> model.reason());
                return;
            case 5:
                same("inDispute()", () -> program.inDispute(), () -> model.inDispute());
                return;
            case 6: {
                int tier = near(-1, 3);
                same("fees(" + tier + ")", () -> program.fees(tier), () -> model.fees(tier));
                return;
            }
            case 7: {
                int sum = pick(2) == 0 ? near(1, 1200000000) : amount();
                same("wouldBe(" + sum + ")", () -> program.wouldBe(sum), () -> model.wouldBe(sum));
                return;
            }
            case 8: {
                int side = near(0, 1), what = near(0, 3);
                same("side(" + side + "," + what + ")", () -> program.side(side, what), () -> model.side(side, what));
                return;
            }
            case 9: {
                int a = party(), b = party();
                same("owed(" + a + "," + b + ")", () -> program.owed(a, b), () -> model.owed(a, b));
                return;
            }
            case 10:
            case 11: {
                int d = debt(), what = near(0, 4);
                same("debt(" + d + "," + what + ")", () -> program.debt(d, what), () -> model.debt(d, what));
                return;
            }
            case 12: {
                int index = near(0, 5);
                same("ring(" + index + ")", () -> program.ring(index), () -> model.ring(index));
                return;
            }
            case 13: {
                int a = party();
                same("net(" + a + ")", () -> program.net(a), () -> model.net(a));
                return;
            }
            default:
                askMore();
        }
    }

    private void askMore() {
        switch (pick(6)) {
            case 0: {
                int d = debt();
                boolean isThere = d >= 0 && d < model.account(2);
                long owed = isThere ? model.debt(d, 2) + model.debt(d, 3) : 100;
                int to = pick(3) == 0 ? amount() : (int) Math.min(1000000001, owed + pick(5) + owed * pick(120) / 100);
                same("growsTo(" + d + "," + to + ")", () -> program.growsTo(d, to), () -> model.growsTo(d, to));
                return;
            }
            case 1:
            case 2: {
                int account = near(0, 11);
                same("account(" + account + ")", () -> program.account(account), () -> model.account(account));
                return;
            }
            case 3: {
                int entry = near(0, 15);
                boolean isAmount = pick(2) == 0;
                same("entry(" + entry + "," + isAmount + ")", () -> program.entry(entry, isAmount),
                        () -> model.entry(entry, isAmount));
                return;
            }
            case 4: {
                int side = near(0, 1);
                same("quota(" + side + ")", () -> program.quota(side), () -> model.quota(side));
                return;
            }
            default:
                if (pick(2) == 0) {
                    same("errorPosition()", () -> program.errorPosition(), () -> model.errorPosition());
                } else {
                    append((char) near(32, 126));
                }
        }
    }
}
