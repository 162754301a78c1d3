import java.util.NoSuchElementException;

/** All that an object answers to questions, so that two states can be compared. */
final class Answers {
    private final ArbitrationFees x;
    private final StringBuilder all = new StringBuilder();

    private Answers(ArbitrationFees x) {
        this.x = x;
    }

    /** All but the reason and the error position. */
    static String of(ArbitrationFees x) {
        Answers answers = new Answers(x);
        answers.addAccounts();
        answers.addParties();
        answers.addClaimsAndDebts();
        answers.addJournalAndRing();
        return answers.all.toString();
    }

    /** The reason and the error position that are kept, 0 and -1 if none is. */
    static String kept(ArbitrationFees x) {
        int reason = 0;
        int errorPosition = -1;
        try {
            reason = x.reason();
        } catch (NoSuchElementException e) {
            reason = 0;
        }
        try {
            errorPosition = x.errorPosition();
        } catch (NoSuchElementException e) {
            errorPosition = -1;
        }
        return reason + " " + errorPosition;
    }

    /** Counts the changes that are remembered by undoing all of them. */
    static int undoAll(ArbitrationFees x) {
        for (int changes = 0; true; changes++) {
            try {
                x.undo();
            } catch (NoSuchElementException e) {
                return changes;
            }
        }
    }

    private void add(String name, long number) {
        all.append(name).append('=').append(number).append(' ');
    }

    private void addAccounts() {
        for (int i = 0; i <= 11; i++) {
            add("account", x.account(i));
        }
        for (int side = 0; side <= 1; side++) {
            for (int what = 0; what <= 3; what++) {
                add("side", x.side(side, what));
            }
            try {
                all.append("quota=").append(x.quota(side)).append(' ');
            } catch (ArithmeticException e) {
                all.append("no quota ");
            }
        }
        for (int tier = -1; tier <= 3; tier++) {
            add("fees", x.fees(tier));
        }
        add("inDispute", x.inDispute());
        for (int sum = 1; sum <= 1000000000; sum *= 10) {
            add("wouldBe", x.wouldBe(sum));
        }
    }

    private void addParties() {
        for (int i = 0; i < x.account(0); i++) {
            for (int what = 0; what <= 10; what++) {
                add("party", x.party(i, what));
            }
            for (int other = 0; other < x.account(0); other++) {
                add("owed", x.owed(i, other));
            }
            add("net", x.net(i));
        }
    }

    private void addClaimsAndDebts() {
        for (int i = 0; i < x.account(1); i++) {
            for (int what = 0; what <= 6; what++) {
                add("claimed", x.claimed(i, what));
            }
        }
        for (int i = 0; i < x.account(2); i++) {
            for (int what = 0; what <= 4; what++) {
                add("debt", x.debt(i, what));
            }
        }
    }

    private void addJournalAndRing() {
        try {
            for (int i = 0; i <= 16; i++) {
                add("kind", x.entry(i, false));
                add("amount", x.entry(i, true));
            }
        } catch (NoSuchElementException e) {
            all.append("no entry more ");
        }
        try {
            for (int i = 0; i <= 6; i++) {
                add("ring", x.ring(i));
            }
        } catch (NoSuchElementException e) {
            all.append("no party more ");
        }
    }
}
