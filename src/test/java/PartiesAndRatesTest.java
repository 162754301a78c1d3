/** Promises 1 to 6. */
public final class PartiesAndRatesTest {
    public static void main(String[] args) {
        promise1NewObject();
        promise2Clear();
        promise2ClearKeepsSomeThings();
        promise2NothingOfOldRowsStays();
        promise3AddParty();
        promise3SixParties();
        promise4SetRate();
        promise5SetTier();
        promise6Party();
        promise6Share();
        Check.end();
    }

    private static void isAsNew(ArbitrationFees x) {
        for (int i = 0; i <= 11; i++) {
            Check.due("new: account(" + i + ")", x.account(i), 0);
        }
        Check.due("new: inDispute()", x.inDispute(), 0);
        Check.due("new: fees(-1)", x.fees(-1), 0);
        Check.due("new: fees(0)", x.fees(0), 0);
        for (int side = 0; side <= 1; side++) {
            for (int what = 0; what <= 3; what++) {
                Check.due("new: side", x.side(side, what), 0);
            }
        }
        Check.thrown("new: party(0, 0)", Check.INDEX, () -> x.party(0, 0));
        Check.thrown("new: claimed(0, 0)", Check.INDEX, () -> x.claimed(0, 0));
        Check.thrown("new: debt(0, 0)", Check.INDEX, () -> x.debt(0, 0));
        Check.thrown("new: ring(0)", Check.NONE, () -> x.ring(0));
        Check.thrown("new: entry(0)", Check.NONE, () -> x.entry(0, true));
        Check.thrown("new: quota(0)", Check.ARITHMETIC, () -> x.quota(0));
        Check.thrown("new: undo()", Check.NONE, () -> x.undo());
        // 10 percent, 5, 2.5 and 1 of the parts
        Check.due("new: wouldBe", x.wouldBe(30000000), 100000 + 200000 + 375000 + 100000 + 5000);
    }

    private static void ratesAreAsNew(ArbitrationFees x) {
        int[] rates = {0, 400, 600, 900};
        int[] tiers = {1000, 500, 250, 100};
        for (int i = 0; i < 4; i++) {
            Check.due("new: setRate", x.setRate(i, rates[i]), rates[i]);
            Check.due("new: setTier", x.setTier(i, tiers[i]), tiers[i]);
        }
    }

    private static void promise1NewObject() {
        ArbitrationFees x = new ArbitrationFees();
        isAsNew(x);
        Check.thrown("new: reason()", Check.NONE, () -> x.reason());
        Check.thrown("new: errorPosition()", Check.NONE, () -> x.errorPosition());
        Check.thrown("new: restore()", Check.STATE, () -> x.restore());
        Check.due("new: append", x.append('g'), 1);
        ratesAreAsNew(x);
        ArbitrationFees other = new ArbitrationFees();
        x.addParty(0, 1);
        Check.due("objects share nothing", other.account(0), 0);
    }

    private static void promise2Clear() {
        ArbitrationFees x = new ArbitrationFees();
        Check.due("clear() of nothing", x.clear(), 0);
        x.addParty(0, 1);
        x.addParty(1, 1);
        x.addParty(1, 1);
        for (int i = 0; i < 4; i++) {
            x.setRate(i, 7);
            x.setTier(i, 7);
        }
        x.goOn();
        x.claim(1, 0, 500);
        x.award(0, 300);
        x.dismiss(0, 50);
        x.withdraw(0, 20);
        x.call(1000);
        x.pay(0, 2000);
        x.takeFees();
        x.pass(30);
        Check.due("clear()", x.clear(), 3);
        isAsNew(x);
        ratesAreAsNew(x);
        Check.due("addParty after clear", x.addParty(1, 3), 0);
        for (int what = 2; what <= 10; what++) {
            Check.due("party(0, " + what + ") after clear", x.party(0, what), 0);
        }
        x.addParty(0, 1);
        Check.due("claim after clear", x.claim(0, 1, 9), 0);
        Check.due("left of the claim after clear", x.claimed(0, 6), 9);
        for (int what = 3; what <= 5; what++) {
            Check.due("claimed(0, " + what + ") after clear", x.claimed(0, what), 0);
        }
        Check.due("clear() again", x.clear(), 2);
    }

    private static void promise2ClearKeepsSomeThings() {
        ArbitrationFees x = Check.withParties(0, 1);
        x.claim(0, 1, 5);
        x.save();
        Check.thrown("award in stage 0", Check.REFUSED, () -> x.award(0, 1));
        Check.type(x, "gg");
        Check.thrown("gg", Check.ARGUMENT, () -> x.read());
        Check.type(x, "g;");
        x.clear();
        Check.due("reason() after clear", x.reason(), 1);
        Check.due("errorPosition() after clear", x.errorPosition(), 1);
        Check.due("the input after clear", x.append('g'), 3);
        Check.due("restore() after clear", x.restore(), 1);
        Check.due("parties after restore", x.account(0), 2);
    }

    /** Six parties, twelve claims, entries and debts, with amounts everywhere. */
    private static ArbitrationFees full() {
        ArbitrationFees x = Check.withParties(0, 1, 1, 0, 1, 0);
        for (int i = 0; i < 12; i++) {
            x.claim(i % 2 == 0 ? 0 : 1, i % 2 == 0 ? 1 : 0, 1000 + i);
        }
        x.goOn();
        for (int i = 0; i < 12; i++) {
            x.award(i, 100 + i);
            x.dismiss(i, 50);
            x.withdraw(i, 7);
        }
        x.call(6000);
        for (int i = 0; i < 6; i++) {
            x.payFor(i, (i + 1) % 6);
        }
        for (int i = 0; i < 6; i++) {
            x.pay(i, 5000);
        }
        x.takeFees();
        x.pass(999);
        x.goOn();
        x.goOn();
        x.giveBack();
        return x;
    }

    private static void promise2NothingOfOldRowsStays() {
        ArbitrationFees x = full();
        Check.due("debts of the full one", x.account(2), 7);
        Check.due("paid in the full one", x.account(4), 36000);
        Check.due("taken in the full one", x.account(5), x.fees(-1));
        Check.due("returned in the full one", x.account(6), 36000 - x.fees(-1));
        Check.due("lost in the full one", x.side(0, 0) + x.side(1, 0), 12 * 150 + 66);
        Check.due("left in the full one", x.account(10), 12 * 843);
        Check.due("in dispute in the full one", x.inDispute(), 12 * 993 + 66);
        Check.due("parties of both sides", x.side(0, 2) * 10 + x.side(1, 2), 33);
        Check.due("weights of both sides", x.side(0, 3) * 10 + x.side(1, 3), 33);
        Check.dueDouble("quota of side 0", x.quota(0), (6 * 100 + 30) / (6 * 993 + 30.0));
        Check.dueDouble("quota of side 1", x.quota(1), (6 * 100 + 36) / (6 * 993 + 36.0));
        x.clear();
        x.addParty(1, 2);
        x.addParty(0, 3);
        x.setTier(0, 0);
        Check.due("called", x.call(101), 101);
        Check.due("short", x.account(11), 101);
        Check.due("claim", x.claim(1, 0, 100), 0);
        Check.due("parties", x.side(0, 2) + x.side(1, 2), 2);
        Check.due("weights", x.side(0, 3) * 10 + x.side(1, 3), 32);
        Check.due("lost", x.side(0, 0) + x.side(1, 0), 0);
        Check.due("in dispute", x.inDispute(), 100);
        Check.due("share", x.party(0, 7), 2500);
        Check.due("share", x.party(1, 7), 2500);
        x.goOn();
        Check.due("award", x.award(0, 40), 60);
        Check.dueDouble("quota", x.quota(0), 0.4);
        Check.thrown("no quota of the other side", Check.ARITHMETIC, () -> x.quota(1));
        Check.due("owed in all", x.account(3), 40);
        Check.due("owed to the party", x.party(1, 10), 40);
        Check.due("owed by the party", x.party(0, 9), 40);
        Check.due("paid", x.pay(0, 9000), 9000);
        Check.due("taken", x.takeFees(), 5000);
        Check.due("left", x.account(10), 60);
        x.goOn();
        x.goOn();
        Check.due("returned", x.giveBack(), 4000);
        Check.thrown("no ring", Check.NONE, () -> x.ring(0));
        Check.due("interest of one debt alone", x.pass(999), 9);
    }

    private static void promise3AddParty() {
        ArbitrationFees x = new ArbitrationFees();
        Check.thrown("side -1", Check.ARGUMENT, () -> x.addParty(-1, 1));
        Check.thrown("side 2", Check.ARGUMENT, () -> x.addParty(2, 1));
        Check.thrown("weight 0", Check.ARGUMENT, () -> x.addParty(0, 0));
        Check.thrown("weight 10", Check.ARGUMENT, () -> x.addParty(0, 10));
        Check.thrown("weight least", Check.ARGUMENT, () -> x.addParty(0, Integer.MIN_VALUE));
        Check.due("parties after wrong ones", x.account(0), 0);
        Check.due("addParty(0, 1)", x.addParty(0, 1), 0);
        Check.due("addParty(1, 9)", x.addParty(1, 9), 1);
        Check.due("side", x.party(0, 0), 0);
        Check.due("weight", x.party(0, 1), 1);
        Check.due("side", x.party(1, 0), 1);
        Check.due("weight", x.party(1, 1), 9);
        x.goOn();
        x.goOn();
        x.goOn();
        Check.due("addParty in the last stage", x.addParty(1, 2), 2);
    }

    private static void promise3SixParties() {
        ArbitrationFees x = new ArbitrationFees();
        for (int i = 0; i < 6; i++) {
            Check.due("addParty", x.addParty(i % 2, i + 1), i);
        }
        Check.thrown("a seventh party", Check.STATE, () -> x.addParty(0, 1));
        Check.thrown("a seventh party out of range", Check.ARGUMENT, () -> x.addParty(0, 10));
        Check.due("parties", x.account(0), 6);
        Check.due("undo", x.undo(), 5);
        Check.due("addParty after undo", x.addParty(1, 1), 5);
    }

    private static void promise4SetRate() {
        ArbitrationFees x = Check.withParties(0, 1);
        Check.thrown("stage -1", Check.INDEX, () -> x.setRate(-1, 5));
        Check.thrown("stage 4", Check.INDEX, () -> x.setRate(4, 5));
        Check.thrown("stage 4 and a wrong rate", Check.INDEX, () -> x.setRate(4, -1));
        Check.thrown("rate -1", Check.ARGUMENT, () -> x.setRate(0, -1));
        Check.thrown("rate 2001", Check.ARGUMENT, () -> x.setRate(3, 2001));
        Check.due("setRate(0, 2000)", x.setRate(0, 2000), 0);
        Check.due("setRate(0, 0)", x.setRate(0, 0), 2000);
        Check.due("setRate(3, 1)", x.setRate(3, 1), 900);
        Check.due("setRate(1, 360)", x.setRate(1, 360), 400);
        Check.due("setRate(2, 720)", x.setRate(2, 720), 600);
        x.goOn();
        Check.owe(x, 0, 1, 10000);
        // 3.6 percent of 10000 for a year
        Check.due("a year in stage 1", x.pass(360), 360);
        x.goOn();
        Check.due("a year in stage 2", x.pass(360), 720);
        x.goOn();
        Check.due("a year in stage 3", x.pass(360), 1);
    }

    private static void promise5SetTier() {
        ArbitrationFees x = new ArbitrationFees();
        Check.thrown("tier -1", Check.INDEX, () -> x.setTier(-1, 5));
        Check.thrown("tier 4", Check.INDEX, () -> x.setTier(4, 5));
        Check.thrown("tier 4 and a wrong rate", Check.INDEX, () -> x.setTier(4, 2001));
        Check.thrown("rate -1", Check.ARGUMENT, () -> x.setTier(0, -1));
        Check.thrown("rate 2001", Check.ARGUMENT, () -> x.setTier(3, 2001));
        Check.due("setTier(0, 0)", x.setTier(0, 0), 1000);
        Check.due("setTier(1, 2000)", x.setTier(1, 2000), 500);
        Check.due("setTier(2, 10)", x.setTier(2, 10), 250);
        Check.due("setTier(3, 1)", x.setTier(3, 1), 100);
        Check.due("setTier(3, 2)", x.setTier(3, 2), 1);
        Check.due("wouldBe", x.wouldBe(30000000), 0 + 800000 + 15000 + 2000 + 5000);
    }

    private static void promise6Party() {
        ArbitrationFees x = new ArbitrationFees();
        x.addParty(0, 4);
        x.addParty(1, 1);
        x.goOn();
        Check.owe(x, 0, 1, 700);
        Check.owe(x, 1, 0, 50);
        x.call(1001);
        x.pay(1, 300);
        x.pay(0, 900);
        long[] first = {0, 4, 501, 900, 0, 0, 900, 4737, 0, 700, 50};
        long[] second = {1, 1, 500, 300, 0, 0, 300, 338, 200, 50, 700};
        for (int what = 0; what <= 10; what++) {
            Check.due("party(0, " + what + ")", x.party(0, what), first[what]);
            Check.due("party(1, " + what + ")", x.party(1, what), second[what]);
        }
        x.setTier(0, 0);
        x.takeFees();
        Check.due("taken", x.party(0, 4), 900);
        Check.due("held", x.party(0, 6), 0);
        x.goOn();
        x.goOn();
        x.pay(0, 10000);
        x.takeFees();
        x.giveBack();
        Check.due("returned", x.party(0, 5), 10900 - x.party(0, 7));
        Check.due("held at the end", x.party(0, 6), 0);
        Check.thrown("party(-1, 0)", Check.INDEX, () -> x.party(-1, 0));
        Check.thrown("party(2, 0)", Check.INDEX, () -> x.party(2, 0));
        Check.thrown("party(2, 11)", Check.INDEX, () -> x.party(2, 11));
        Check.thrown("party(0, -1)", Check.ARGUMENT, () -> x.party(0, -1));
        Check.thrown("party(0, 11)", Check.ARGUMENT, () -> x.party(0, 11));
    }

    private static void promise6Share() {
        ArbitrationFees x = new ArbitrationFees();
        x.addParty(1, 2);
        x.addParty(0, 3);
        x.addParty(1, 2);
        x.addParty(1, 3);
        x.setTier(0, 0);
        x.claim(1, 0, 100);
        // 2500 of side 1 by weights 2, 2 and 3: 714, 714, 1071, and the missing cent for the lowest number
        Check.due("share of party 0", x.party(0, 7), 715);
        Check.due("share of party 1", x.party(1, 7), 2500);
        Check.due("share of party 2", x.party(2, 7), 714);
        Check.due("share of party 3", x.party(3, 7), 1071);
        x.addParty(1, 9);
        // 2500 by 2, 2, 3 and 9: 312, 312, 468, 1406 and two missing cents
        Check.due("share of party 0", x.party(0, 7), 313);
        Check.due("share of party 2", x.party(2, 7), 313);
        Check.due("share of party 3", x.party(3, 7), 468);
        Check.due("share of party 4", x.party(4, 7), 1406);
    }
}
