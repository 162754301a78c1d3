import java.util.NoSuchElementException;

/** Accounts of an arbitration, as ../shared/DOC.md tells them. */
public final class ArbitrationFees {
    private static final int MOST_PARTIES = 6;
    private static final int MOST_WEIGHT = 9;
    private static final int MOST_CLAIMS = 12;
    // at most one debt of each party to each other one
    private static final int MOST_DEBTS = 30;
    private static final int MOST_ENTRIES = 16;
    private static final int MOST_CHARACTERS = 70;
    // the shortest entry of a text has two characters
    private static final int MOST_COMMANDS = 35;
    private static final int MOST_REMEMBERED = 6;
    // one more than is remembered, so that a change can be tried before the oldest one is forgotten
    private static final int HISTORY_ROWS = 7;

    private static final int SIDES = 2;
    private static final int STAGES = 4;
    private static final int LAST_STAGE = 3;
    private static final int TIERS = 4;
    private static final int LAST_TIER = 3;
    private static final int ALL_TIERS = -1;
    private static final int MOST_RATE = 2000;
    private static final int LAST_DAY = 3650;
    private static final int MOST_DAYS_AHEAD = 3650;
    private static final int MOST_DAYS_AT_ONCE = 999;
    private static final int MOST_AMOUNT = 100000000;
    private static final int MOST_SUM = 1200000000;
    private static final int MOST_GROWN = 1000000000;
    private static final int FIXED_FEE = 5000;
    private static final int RATE_UNITS = 10000;
    private static final int UNITS_OF_A_CENT = 3600000;
    private static final int LEAST_CODE = 32;
    private static final int MOST_CODE = 126;

    // why a call cannot be done: numbers up to 6 are the reasons of refusals
    private static final int FINE = 0;
    private static final int BEFORE_AWARDS = 1;
    private static final int AFTER_WITHDRAWALS = 2;
    private static final int MORE_THAN_LEFT = 3;
    private static final int MORE_THAN_OWED = 4;
    private static final int NOTHING_TO_OFFSET = 5;
    private static final int BEFORE_THE_END = 6;
    private static final int LAST_REASON = 6;
    private static final int NO_SUCH_NUMBER = 7;
    private static final int OUT_OF_RANGE = 8;
    private static final int NOT_NOW = 9;

    private static final int NONE = -1;

    private final Accounts present = new Accounts();
    private final Accounts saved = new Accounts();
    private final Accounts[] history = new Accounts[HISTORY_ROWS];
    private final Text input = new Text();
    private final RingFinder rings = new RingFinder();
    private boolean isSaved = false;
    private int nextRow = 0;
    private int remembered = 0;
    private int keptReason = NONE;
    private int keptErrorPosition = NONE;

    public ArbitrationFees() {
        for (int i = 0; i < HISTORY_ROWS; i++) {
            history[i] = new Accounts();
        }
    }

    // ---- parties and rates

    public int clear() {
        int parties = present.parties.count;
        present.reset();
        remembered = 0;
        return parties;
    }

    public int addParty(int side, int weight) throws IllegalArgumentException, IllegalStateException {
        if (!isSide(side) || !isWithin(weight, 1, MOST_WEIGHT)) {
            throw new IllegalArgumentException();
        }
        if (present.parties.count >= MOST_PARTIES) {
            throw new IllegalStateException();
        }
        remember();
        return present.parties.addOne(side, weight);
    }

    public int setRate(int stage, int rate) throws IndexOutOfBoundsException, IllegalArgumentException {
        refuse(faultOfRate(stage, STAGES, rate));
        remember();
        int before = present.rates[stage];
        present.rates[stage] = rate;
        return before;
    }

    public int setTier(int tier, int rate) throws IndexOutOfBoundsException, IllegalArgumentException {
        refuse(faultOfRate(tier, TIERS, rate));
        remember();
        int before = present.tiers[tier];
        present.tiers[tier] = rate;
        return before;
    }

    public long party(int party, int what) throws IndexOutOfBoundsException, IllegalArgumentException {
        refuse(faultOfQuestion(present.parties.has(party), what, Parties.IS_OWED));
        return present.numberOfParty(party, what);
    }

    // ---- claims

    public int claim(int party, int against, int amount)
            throws IndexOutOfBoundsException, IllegalArgumentException, IllegalStateException {
        refuse(present.faultOfClaim(party, against, amount));
        remember();
        return present.claims.addOne(party, against, amount);
    }

    public int award(int claim, int amount)
            throws IndexOutOfBoundsException, IllegalArgumentException, UnsupportedOperationException {
        refuse(present.faultOfRuling(claim, amount));
        remember();
        present.makeAward(claim, amount);
        return present.claims.leftOf(claim);
    }

    public int dismiss(int claim, int amount)
            throws IndexOutOfBoundsException, IllegalArgumentException, UnsupportedOperationException {
        refuse(present.faultOfRuling(claim, amount));
        remember();
        present.makeDismissal(claim, amount);
        return present.claims.leftOf(claim);
    }

    public int withdraw(int claim, int amount)
            throws IndexOutOfBoundsException, IllegalArgumentException, UnsupportedOperationException {
        refuse(present.faultOfWithdrawal(claim, amount));
        remember();
        present.makeWithdrawal(claim, amount);
        return present.claims.leftOf(claim);
    }

    public int claimed(int claim, int what) throws IndexOutOfBoundsException, IllegalArgumentException {
        refuse(faultOfQuestion(present.claims.has(claim), what, Claims.LEFT));
        return present.claims.numberOf(claim, what);
    }

    public int reason() throws NoSuchElementException {
        if (keptReason == NONE) {
            throw new NoSuchElementException();
        }
        return keptReason;
    }

    // ---- fees and deposits

    public long inDispute() {
        return present.claims.sumInDispute();
    }

    public long fees(int tier) throws IndexOutOfBoundsException {
        if (tier == ALL_TIERS) {
            return present.feesOfAll();
        }
        if (!isWithin(tier, 0, LAST_TIER)) {
            throw new IndexOutOfBoundsException();
        }
        return present.feeOfTier(present.claims.sumInDispute(), tier);
    }

    public long wouldBe(int sum) throws IllegalArgumentException {
        if (!isWithin(sum, 1, MOST_SUM)) {
            throw new IllegalArgumentException();
        }
        return present.feesOfSum(sum);
    }

    public long side(int side, int what) throws IndexOutOfBoundsException, IllegalArgumentException {
        refuse(faultOfQuestion(isSide(side), what, Accounts.LAST_OF_SIDE));
        return present.numberOfSide(side, what);
    }

    public long call(int amount) throws IllegalArgumentException {
        if (!isAmount(amount)) {
            throw new IllegalArgumentException();
        }
        remember();
        return present.makeCall(amount);
    }

    public long pay(int party, int amount) throws IndexOutOfBoundsException, IllegalArgumentException {
        refuse(present.faultOfPayment(party, amount));
        remember();
        present.makePayment(party, amount);
        return present.parties.heldFor(party);
    }

    public long payFor(int party, int other)
            throws IndexOutOfBoundsException, IllegalArgumentException, IllegalStateException {
        refuse(present.faultOfPaymentFor(party, other));
        remember();
        return present.makePaymentFor(party, other);
    }

    public long takeFees() {
        remember();
        return present.takeAllFees();
    }

    public long giveBack() throws UnsupportedOperationException {
        refuse(present.stage < LAST_STAGE ? BEFORE_THE_END : FINE);
        remember();
        return present.returnAll();
    }

    // ---- debts

    public long owed(int party, int other) throws IndexOutOfBoundsException {
        if (!present.parties.hasBoth(party, other)) {
            throw new IndexOutOfBoundsException();
        }
        return present.debts.owedBy(party, other);
    }

    public long debt(int debt, int what) throws IndexOutOfBoundsException, IllegalArgumentException {
        refuse(faultOfQuestion(present.debts.has(debt), what, Debts.UNITS));
        return present.debts.numberOf(debt, what);
    }

    public long settle(int party, int other, int amount)
            throws IndexOutOfBoundsException, IllegalArgumentException, UnsupportedOperationException {
        refuse(present.faultOfSettlement(party, other, amount));
        remember();
        present.makeSettlement(party, other, amount);
        return present.debts.owedBy(party, other);
    }

    public long offset(int party, int other)
            throws IndexOutOfBoundsException, IllegalArgumentException, UnsupportedOperationException {
        refuse(present.faultOfOffset(party, other));
        remember();
        return present.makeOffset(party, other);
    }

    public int ring(int index) throws NoSuchElementException {
        rings.findFirst(present.debts);
        if (index < 0 || index >= rings.length) {
            throw new NoSuchElementException();
        }
        return rings.row[index];
    }

    public long clearRings() {
        remember();
        return present.clearAllRings(rings);
    }

    public long net(int party) throws IndexOutOfBoundsException {
        if (!present.parties.has(party)) {
            throw new IndexOutOfBoundsException();
        }
        return present.debts.allOwedTo(party) - present.debts.allOwedBy(party);
    }

    public int growsTo(int debt, int amount)
            throws IndexOutOfBoundsException, IllegalArgumentException, NoSuchElementException {
        if (!present.debts.has(debt)) {
            throw new IndexOutOfBoundsException();
        }
        if (!isWithin(amount, 1, MOST_GROWN)) {
            throw new IllegalArgumentException();
        }
        long days = present.debts.daysUntil(debt, amount, present.rates[present.stage]);
        if (days > MOST_DAYS_AHEAD) {
            throw new NoSuchElementException();
        }
        return (int) days;
    }

    public long pass(int days) throws IllegalArgumentException, IllegalStateException {
        refuse(present.faultOfDays(days));
        remember();
        return present.letDaysPass(days);
    }

    public int goOn() throws IllegalStateException {
        refuse(present.faultOfNextStage());
        remember();
        present.enterNextStage();
        return present.stage;
    }

    // ---- accounts

    public long account(int account) throws IllegalArgumentException {
        if (!isWithin(account, 0, Accounts.LAST_ACCOUNT)) {
            throw new IllegalArgumentException();
        }
        return present.numberOfAccount(account);
    }

    public long entry(int entry, boolean isAmount) throws NoSuchElementException {
        if (!present.journal.has(entry)) {
            throw new NoSuchElementException();
        }
        return isAmount ? present.journal.amounts[entry] : present.journal.kinds[entry];
    }

    public double quota(int side) throws IndexOutOfBoundsException, ArithmeticException {
        if (!isSide(side)) {
            throw new IndexOutOfBoundsException();
        }
        long sought = present.soughtBy(side);
        if (sought == 0) {
            throw new ArithmeticException();
        }
        return (double) present.awardedTo(side) / (double) sought;
    }

    // ---- texts, history and saving

    public int append(char character) throws IllegalArgumentException, IllegalStateException {
        if (!isWithin(character, LEAST_CODE, MOST_CODE)) {
            throw new IllegalArgumentException();
        }
        if (input.length >= MOST_CHARACTERS) {
            throw new IllegalStateException();
        }
        return input.addOne(character);
    }

    public int read() throws IllegalArgumentException, IllegalStateException {
        boolean isRight = input.parseAll();
        input.empty();
        if (!isRight) {
            keptErrorPosition = input.position;
            throw new IllegalArgumentException();
        }
        history[nextRow].copyFrom(present);
        int fault = performAll(present, input);
        if (fault != FINE) {
            present.copyFrom(history[nextRow]);
            keepReason(fault);
            throw new IllegalStateException();
        }
        keepRow();
        return input.count;
    }

    public int errorPosition() throws NoSuchElementException {
        if (keptErrorPosition == NONE) {
            throw new NoSuchElementException();
        }
        return keptErrorPosition;
    }

    public int undo() throws NoSuchElementException {
        if (remembered <= 0) {
            throw new NoSuchElementException();
        }
        nextRow = nextRow > 0 ? nextRow - 1 : HISTORY_ROWS - 1;
        remembered--;
        present.copyFrom(history[nextRow]);
        return remembered;
    }

    public int save() {
        saved.copyFrom(present);
        isSaved = true;
        return present.claims.count;
    }

    public int restore() throws IllegalStateException {
        if (!isSaved) {
            throw new IllegalStateException();
        }
        present.copyFrom(saved);
        remembered = 0;
        return present.claims.count;
    }

    private void remember() {
        history[nextRow].copyFrom(present);
        keepRow();
    }

    private void keepRow() {
        nextRow = nextRow < HISTORY_ROWS - 1 ? nextRow + 1 : 0;
        remembered = Math.min(remembered + 1, MOST_REMEMBERED);
    }

    private void keepReason(int fault) {
        if (fault <= LAST_REASON) {
            keptReason = fault;
        }
    }

    private void refuse(int fault) {
        switch (fault) {
            case FINE:
                return;
            case NO_SUCH_NUMBER:
                throw new IndexOutOfBoundsException();
            case OUT_OF_RANGE:
                throw new IllegalArgumentException();
            case NOT_NOW:
                throw new IllegalStateException();
            default:
                keepReason(fault);
                throw new UnsupportedOperationException();
        }
    }

    private static boolean isWithin(int number, int least, int most) {
        return number >= least && number <= most;
    }

    private static boolean isSide(int side) {
        return isWithin(side, 0, SIDES - 1);
    }

    private static boolean isAmount(int amount) {
        return isWithin(amount, 1, MOST_AMOUNT);
    }

    private static int faultOfRate(int index, int length, int rate) {
        if (!isWithin(index, 0, length - 1)) {
            return NO_SUCH_NUMBER;
        }
        return isWithin(rate, 0, MOST_RATE) ? FINE : OUT_OF_RANGE;
    }

    private static int faultOfQuestion(boolean isThere, int what, int lastWhat) {
        if (!isThere) {
            return NO_SUCH_NUMBER;
        }
        return isWithin(what, 0, lastWhat) ? FINE : OUT_OF_RANGE;
    }

    private static int performAll(Accounts accounts, Text text) {
        for (int i = 0; i < text.count; i++) {
            int fault = faultOfCommand(accounts, text, i);
            if (fault != FINE) {
                return fault;
            }
            perform(accounts, text, i);
        }
        return FINE;
    }

    private static int faultOfCommand(Accounts accounts, Text text, int command) {
        int first = text.firsts[command];
        int second = text.seconds[command];
        int amount = text.amounts[command];
        switch (text.kinds[command]) {
            case Text.CLAIM:
                return accounts.faultOfClaim(first, second, amount);
            case Text.AWARD:
            case Text.DISMISS:
                return accounts.faultOfRuling(first, amount);
            case Text.WITHDRAW:
                return accounts.faultOfWithdrawal(first, amount);
            case Text.PAY:
                return accounts.faultOfPayment(first, amount);
            case Text.SETTLE:
                return accounts.faultOfSettlement(first, second, amount);
            case Text.PASS:
                return accounts.faultOfDays(first);
            default:
                return accounts.faultOfNextStage();
        }
    }

    private static void perform(Accounts accounts, Text text, int command) {
        int first = text.firsts[command];
        int second = text.seconds[command];
        int amount = text.amounts[command];
        switch (text.kinds[command]) {
            case Text.CLAIM:
                accounts.claims.addOne(first, second, amount);
                break;
            case Text.AWARD:
                accounts.makeAward(first, amount);
                break;
            case Text.DISMISS:
                accounts.makeDismissal(first, amount);
                break;
            case Text.WITHDRAW:
                accounts.makeWithdrawal(first, amount);
                break;
            case Text.PAY:
                accounts.makePayment(first, amount);
                break;
            case Text.SETTLE:
                accounts.makeSettlement(first, second, amount);
                break;
            case Text.PASS:
                accounts.letDaysPass(first);
                break;
            default:
                accounts.enterNextStage();
                break;
        }
    }

    /** All that the history remembers for a change. */
    private static final class Accounts {
        static final int LAST_OF_SIDE = 3;
        static final int LAST_ACCOUNT = 11;
        private static final int[] FIRST_RATES = {0, 400, 600, 900};
        private static final int[] FIRST_TIERS = {1000, 500, 250, 100};
        // the sum from which on a tier counts
        private static final int[] TIER_FLOORS = {0, 1000000, 5000000, 20000000};

        final Parties parties = new Parties();
        final Claims claims = new Claims();
        final Debts debts = new Debts();
        final Journal journal = new Journal();
        final int[] rates = FIRST_RATES.clone();
        final int[] tiers = FIRST_TIERS.clone();
        int day = 0;
        int stage = 0;

        void reset() {
            parties.count = 0;
            claims.count = 0;
            debts.count = 0;
            journal.count = 0;
            System.arraycopy(FIRST_RATES, 0, rates, 0, STAGES);
            System.arraycopy(FIRST_TIERS, 0, tiers, 0, TIERS);
            day = 0;
            stage = 0;
        }

        void copyFrom(Accounts other) {
            parties.copyFrom(other.parties);
            claims.copyFrom(other.claims);
            debts.copyFrom(other.debts);
            journal.copyFrom(other.journal);
            System.arraycopy(other.rates, 0, rates, 0, STAGES);
            System.arraycopy(other.tiers, 0, tiers, 0, TIERS);
            day = other.day;
            stage = other.stage;
        }

        int faultOfClaim(int party, int against, int amount) {
            if (!parties.hasBoth(party, against)) {
                return NO_SUCH_NUMBER;
            }
            if (parties.sides[party] == parties.sides[against] || !isAmount(amount)) {
                return OUT_OF_RANGE;
            }
            return claims.count >= MOST_CLAIMS || stage >= LAST_STAGE ? NOT_NOW : FINE;
        }

        int faultOfRuling(int claim, int amount) {
            return faultOfPart(claim, amount, stage == 0 ? BEFORE_AWARDS : FINE);
        }

        int faultOfWithdrawal(int claim, int amount) {
            return faultOfPart(claim, amount, stage > 1 ? AFTER_WITHDRAWALS : FINE);
        }

        private int faultOfPart(int claim, int amount, int refusalOfStage) {
            if (!claims.has(claim)) {
                return NO_SUCH_NUMBER;
            }
            if (amount < 1) {
                return OUT_OF_RANGE;
            }
            if (refusalOfStage != FINE) {
                return refusalOfStage;
            }
            return amount > claims.leftOf(claim) ? MORE_THAN_LEFT : FINE;
        }

        int faultOfPayment(int party, int amount) {
            if (!parties.has(party)) {
                return NO_SUCH_NUMBER;
            }
            return isAmount(amount) ? FINE : OUT_OF_RANGE;
        }

        int faultOfPaymentFor(int party, int other) {
            if (!parties.hasBoth(party, other)) {
                return NO_SUCH_NUMBER;
            }
            if (party == other) {
                return OUT_OF_RANGE;
            }
            return parties.shortOf(other) > 0 ? FINE : NOT_NOW;
        }

        int faultOfSettlement(int party, int other, int amount) {
            if (!parties.hasBoth(party, other)) {
                return NO_SUCH_NUMBER;
            }
            if (amount < 1) {
                return OUT_OF_RANGE;
            }
            return amount > debts.owedBy(party, other) ? MORE_THAN_OWED : FINE;
        }

        int faultOfOffset(int party, int other) {
            if (!parties.hasBoth(party, other)) {
                return NO_SUCH_NUMBER;
            }
            if (party == other) {
                return OUT_OF_RANGE;
            }
            boolean oweBoth = debts.owedBy(party, other) > 0 && debts.owedBy(other, party) > 0;
            return oweBoth ? FINE : NOTHING_TO_OFFSET;
        }

        int faultOfDays(int days) {
            if (!isWithin(days, 0, MOST_DAYS_AT_ONCE)) {
                return OUT_OF_RANGE;
            }
            return day + days > LAST_DAY ? NOT_NOW : FINE;
        }

        int faultOfNextStage() {
            return stage >= LAST_STAGE ? NOT_NOW : FINE;
        }

        void makeAward(int claim, int amount) {
            claims.awarded[claim] += amount;
            debts.increase(claims.against[claim], claims.claimants[claim], amount);
            journal.addOne(Journal.AWARDED, amount);
        }

        void makeDismissal(int claim, int amount) {
            claims.dismissed[claim] += amount;
            journal.addOne(Journal.DISMISSED, amount);
        }

        void makeWithdrawal(int claim, int amount) {
            claims.withdrawn[claim] += amount;
            journal.addOne(Journal.WITHDRAWN, amount);
        }

        long makeCall(int amount) {
            int half = amount / 2;
            long all = 0;
            for (int i = 0; i < parties.count; i++) {
                long part = parties.partOf(parties.sides[i] == 0 ? amount - half : half, i);
                parties.called[i] += part;
                all += part;
            }
            journal.addOne(Journal.CALLED, all);
            return all;
        }

        void makePayment(int party, long amount) {
            parties.paid[party] += amount;
            journal.addOne(Journal.PAID, amount);
        }

        long makePaymentFor(int party, int other) {
            long amount = parties.shortOf(other);
            makePayment(other, amount);
            debts.increase(other, party, amount);
            return amount;
        }

        long takeAllFees() {
            long all = 0;
            for (int i = 0; i < parties.count; i++) {
                long difference = shareOfParty(i) - parties.taken[i];
                long part = Math.min(difference, parties.heldFor(i));
                parties.taken[i] += part;
                all += part;
            }
            journal.addOne(Journal.TAKEN, all);
            return all;
        }

        long returnAll() {
            long all = 0;
            for (int i = 0; i < parties.count; i++) {
                long needed = Math.max(0, shareOfParty(i) - parties.taken[i]);
                long part = Math.max(0, parties.heldFor(i) - needed);
                parties.returned[i] += part;
                all += part;
            }
            journal.addOne(Journal.RETURNED, all);
            return all;
        }

        void makeSettlement(int party, int other, int amount) {
            debts.reduce(party, other, amount);
            journal.addOne(Journal.SETTLED, amount);
        }

        long makeOffset(int party, int other) {
            long amount = Math.min(debts.owedBy(party, other), debts.owedBy(other, party));
            debts.reduce(party, other, amount);
            debts.reduce(other, party, amount);
            journal.addOne(Journal.OFFSET, amount);
            return amount;
        }

        long clearAllRings(RingFinder rings) {
            long all = 0;
            rings.findFirst(debts);
            // each ring that is cleared ends at least one debt
            for (int i = 0; i < MOST_DEBTS && rings.length > 0; i++) {
                all += clearRing(rings);
                rings.findFirst(debts);
            }
            journal.addOne(Journal.CLEARED, all);
            return all;
        }

        private long clearRing(RingFinder rings) {
            long least = debts.owedBy(rings.row[0], rings.memberAfter(0));
            for (int i = 1; i < rings.length; i++) {
                least = Math.min(least, debts.owedBy(rings.row[i], rings.memberAfter(i)));
            }
            for (int i = 0; i < rings.length; i++) {
                debts.reduce(rings.row[i], rings.memberAfter(i), least);
            }
            return least * rings.length;
        }

        long letDaysPass(int days) {
            day += days;
            return debts.addInterest(days, rates[stage]);
        }

        void enterNextStage() {
            stage++;
        }

        long feeOfTier(long sum, int tier) {
            long floor = TIER_FLOORS[tier];
            long top = tier < LAST_TIER && sum > TIER_FLOORS[tier + 1] ? TIER_FLOORS[tier + 1] : sum;
            return top > floor ? (top - floor) * tiers[tier] / RATE_UNITS : 0;
        }

        long feesOfSum(long sum) {
            long all = FIXED_FEE;
            for (int i = 0; i < TIERS; i++) {
                all += feeOfTier(sum, i);
            }
            return all;
        }

        long feesOfAll() {
            return claims.count > 0 ? feesOfSum(claims.sumInDispute()) : 0;
        }

        long lostBy(int side) {
            long lost = 0;
            for (int i = 0; i < claims.count; i++) {
                // a claim is always between the two sides
                lost += isClaimOf(i, side) ? claims.dismissed[i] : claims.awarded[i];
            }
            return lost;
        }

        long awardedTo(int side) {
            long awarded = 0;
            for (int i = 0; i < claims.count; i++) {
                awarded += isClaimOf(i, side) ? claims.awarded[i] : 0;
            }
            return awarded;
        }

        long soughtBy(int side) {
            long sought = 0;
            for (int i = 0; i < claims.count; i++) {
                sought += isClaimOf(i, side) ? claims.amounts[i] - claims.withdrawn[i] : 0;
            }
            return sought;
        }

        private boolean isClaimOf(int claim, int side) {
            return parties.sides[claims.claimants[claim]] == side;
        }

        long shareOfSide(int side) {
            long all = feesOfAll();
            long lost = lostBy(1);
            long lostByBoth = lostBy(0) + lost;
            long share = lostByBoth > 0 ? all * lost / lostByBoth : all / 2;
            // side 0 bears the missing cent, so it bears all that side 1 does not
            return side == 1 ? share : all - share;
        }

        long shareOfParty(int party) {
            return parties.partOf(shareOfSide(parties.sides[party]), party);
        }

        long numberOfParty(int party, int what) {
            switch (what) {
                case Parties.SHARE:
                    return shareOfParty(party);
                case Parties.OWES:
                    return debts.allOwedBy(party);
                case Parties.IS_OWED:
                    return debts.allOwedTo(party);
                default:
                    return parties.numberOf(party, what);
            }
        }

        long numberOfSide(int side, int what) {
            switch (what) {
                case 0:
                    return lostBy(side);
                case 1:
                    return shareOfSide(side);
                case 2:
                    return parties.countOn(side);
                default:
                    return parties.weightOn(side);
            }
        }

        long numberOfAccount(int account) {
            switch (account) {
                case 0:
                    return parties.count;
                case 1:
                    return claims.count;
                case 2:
                    return debts.count;
                case 3:
                    return debts.allOwed();
                case 4:
                    return parties.totalOf(Parties.PAID);
                case 5:
                    return parties.totalOf(Parties.TAKEN);
                case 6:
                    return parties.totalOf(Parties.RETURNED);
                case 7:
                    return parties.totalOf(Parties.HELD);
                case 8:
                    return day;
                case 9:
                    return stage;
                case 10:
                    return claims.allLeft();
                default:
                    return parties.totalOf(Parties.SHORT);
            }
        }
    }

    /** The parties with their deposits. */
    private static final class Parties {
        static final int SIDE = 0;
        static final int WEIGHT = 1;
        static final int CALLED = 2;
        static final int PAID = 3;
        static final int TAKEN = 4;
        static final int RETURNED = 5;
        static final int HELD = 6;
        static final int SHARE = 7;
        static final int SHORT = 8;
        static final int OWES = 9;
        static final int IS_OWED = 10;

        int count = 0;
        final int[] sides = new int[MOST_PARTIES];
        final int[] weights = new int[MOST_PARTIES];
        final long[] called = new long[MOST_PARTIES];
        final long[] paid = new long[MOST_PARTIES];
        final long[] taken = new long[MOST_PARTIES];
        final long[] returned = new long[MOST_PARTIES];

        void copyFrom(Parties other) {
            count = other.count;
            System.arraycopy(other.sides, 0, sides, 0, MOST_PARTIES);
            System.arraycopy(other.weights, 0, weights, 0, MOST_PARTIES);
            System.arraycopy(other.called, 0, called, 0, MOST_PARTIES);
            System.arraycopy(other.paid, 0, paid, 0, MOST_PARTIES);
            System.arraycopy(other.taken, 0, taken, 0, MOST_PARTIES);
            System.arraycopy(other.returned, 0, returned, 0, MOST_PARTIES);
        }

        boolean has(int party) {
            return party >= 0 && party < count;
        }

        boolean hasBoth(int party, int other) {
            return has(party) && has(other);
        }

        int addOne(int side, int weight) {
            int party = count;
            if (party >= MOST_PARTIES) {
                return NONE;
            }
            sides[party] = side;
            weights[party] = weight;
            called[party] = 0;
            paid[party] = 0;
            taken[party] = 0;
            returned[party] = 0;
            count++;
            return party;
        }

        long heldFor(int party) {
            return paid[party] - taken[party] - returned[party];
        }

        long shortOf(int party) {
            return Math.max(0, called[party] - paid[party]);
        }

        int countOn(int side) {
            int number = 0;
            for (int i = 0; i < count; i++) {
                number += sides[i] == side ? 1 : 0;
            }
            return number;
        }

        int weightOn(int side) {
            int weight = 0;
            for (int i = 0; i < count; i++) {
                weight += sides[i] == side ? weights[i] : 0;
            }
            return weight;
        }

        /** What a party gets of an amount that is split among the parties of its side. */
        long partOf(long amount, int party) {
            int side = sides[party];
            int weight = weightOn(side);
            if (weight <= 0) {
                return 0;
            }
            long missing = amount;
            int before = 0;
            for (int i = 0; i < count; i++) {
                if (sides[i] == side) {
                    missing -= amount * weights[i] / weight;
                    before += i < party ? 1 : 0;
                }
            }
            return amount * weights[party] / weight + (before < missing ? 1 : 0);
        }

        long numberOf(int party, int what) {
            switch (what) {
                case SIDE:
                    return sides[party];
                case WEIGHT:
                    return weights[party];
                case CALLED:
                    return called[party];
                case PAID:
                    return paid[party];
                case TAKEN:
                    return taken[party];
                case RETURNED:
                    return returned[party];
                case HELD:
                    return heldFor(party);
                default:
                    return shortOf(party);
            }
        }

        long totalOf(int what) {
            long total = 0;
            for (int i = 0; i < count; i++) {
                total += numberOf(i, what);
            }
            return total;
        }
    }

    /** The claims and their parts. */
    private static final class Claims {
        static final int CLAIMANT = 0;
        static final int AGAINST = 1;
        static final int AMOUNT = 2;
        static final int AWARDED = 3;
        static final int DISMISSED = 4;
        static final int WITHDRAWN = 5;
        static final int LEFT = 6;

        int count = 0;
        final int[] claimants = new int[MOST_CLAIMS];
        final int[] against = new int[MOST_CLAIMS];
        final int[] amounts = new int[MOST_CLAIMS];
        final int[] awarded = new int[MOST_CLAIMS];
        final int[] dismissed = new int[MOST_CLAIMS];
        final int[] withdrawn = new int[MOST_CLAIMS];

        void copyFrom(Claims other) {
            count = other.count;
            System.arraycopy(other.claimants, 0, claimants, 0, MOST_CLAIMS);
            System.arraycopy(other.against, 0, against, 0, MOST_CLAIMS);
            System.arraycopy(other.amounts, 0, amounts, 0, MOST_CLAIMS);
            System.arraycopy(other.awarded, 0, awarded, 0, MOST_CLAIMS);
            System.arraycopy(other.dismissed, 0, dismissed, 0, MOST_CLAIMS);
            System.arraycopy(other.withdrawn, 0, withdrawn, 0, MOST_CLAIMS);
        }

        boolean has(int claim) {
            return claim >= 0 && claim < count;
        }

        int addOne(int claimant, int other, int amount) {
            int claim = count;
            if (claim >= MOST_CLAIMS) {
                return NONE;
            }
            claimants[claim] = claimant;
            against[claim] = other;
            amounts[claim] = amount;
            awarded[claim] = 0;
            dismissed[claim] = 0;
            withdrawn[claim] = 0;
            count++;
            return claim;
        }

        int leftOf(int claim) {
            return amounts[claim] - awarded[claim] - dismissed[claim] - withdrawn[claim];
        }

        int numberOf(int claim, int what) {
            switch (what) {
                case CLAIMANT:
                    return claimants[claim];
                case AGAINST:
                    return against[claim];
                case AMOUNT:
                    return amounts[claim];
                case AWARDED:
                    return awarded[claim];
                case DISMISSED:
                    return dismissed[claim];
                case WITHDRAWN:
                    return withdrawn[claim];
                default:
                    return leftOf(claim);
            }
        }

        long sumInDispute() {
            long sum = 0;
            for (int i = 0; i < count; i++) {
                sum += amounts[i] - withdrawn[i];
            }
            return sum;
        }

        long allLeft() {
            long left = 0;
            for (int i = 0; i < count; i++) {
                left += leftOf(i);
            }
            return left;
        }
    }

    /** The debts, in the order in which they came. */
    private static final class Debts {
        static final int DEBTOR = 0;
        static final int CREDITOR = 1;
        static final int PRINCIPAL = 2;
        static final int INTEREST = 3;
        static final int UNITS = 4;
        // more days than anybody looks ahead
        private static final long NEVER = MOST_DAYS_AHEAD + 1;

        int count = 0;
        final int[] debtors = new int[MOST_DEBTS];
        final int[] creditors = new int[MOST_DEBTS];
        final long[] principals = new long[MOST_DEBTS];
        final long[] interests = new long[MOST_DEBTS];
        final long[] units = new long[MOST_DEBTS];

        void copyFrom(Debts other) {
            count = other.count;
            System.arraycopy(other.debtors, 0, debtors, 0, MOST_DEBTS);
            System.arraycopy(other.creditors, 0, creditors, 0, MOST_DEBTS);
            System.arraycopy(other.principals, 0, principals, 0, MOST_DEBTS);
            System.arraycopy(other.interests, 0, interests, 0, MOST_DEBTS);
            System.arraycopy(other.units, 0, units, 0, MOST_DEBTS);
        }

        boolean has(int debt) {
            return debt >= 0 && debt < count;
        }

        private int indexOf(int debtor, int creditor) {
            for (int i = 0; i < count; i++) {
                if (debtors[i] == debtor && creditors[i] == creditor) {
                    return i;
                }
            }
            return NONE;
        }

        private long amountOf(int debt) {
            return principals[debt] + interests[debt];
        }

        long owedBy(int debtor, int creditor) {
            int debt = indexOf(debtor, creditor);
            return debt == NONE ? 0 : amountOf(debt);
        }

        long allOwedBy(int party) {
            long all = 0;
            for (int i = 0; i < count; i++) {
                all += debtors[i] == party ? amountOf(i) : 0;
            }
            return all;
        }

        long allOwedTo(int party) {
            long all = 0;
            for (int i = 0; i < count; i++) {
                all += creditors[i] == party ? amountOf(i) : 0;
            }
            return all;
        }

        long allOwed() {
            long all = 0;
            for (int i = 0; i < count; i++) {
                all += amountOf(i);
            }
            return all;
        }

        void increase(int debtor, int creditor, long amount) {
            int debt = indexOf(debtor, creditor);
            if (debt != NONE) {
                principals[debt] += amount;
            } else if (count < MOST_DEBTS) {
                debtors[count] = debtor;
                creditors[count] = creditor;
                principals[count] = amount;
                interests[count] = 0;
                units[count] = 0;
                count++;
            }
        }

        void reduce(int debtor, int creditor, long amount) {
            int debt = indexOf(debtor, creditor);
            if (debt == NONE) {
                return;
            }
            long ofInterest = Math.min(amount, interests[debt]);
            interests[debt] -= ofInterest;
            principals[debt] -= amount - ofInterest;
            if (amountOf(debt) <= 0) {
                removeAt(debt);
            }
        }

        private void removeAt(int debt) {
            for (int i = debt; i < count - 1; i++) {
                debtors[i] = debtors[i + 1];
                creditors[i] = creditors[i + 1];
                principals[i] = principals[i + 1];
                interests[i] = interests[i + 1];
                units[i] = units[i + 1];
            }
            count--;
        }

        long addInterest(int days, int rate) {
            long all = 0;
            for (int i = 0; i < count; i++) {
                long grown = units[i] + principals[i] * rate * days;
                long cents = grown / UNITS_OF_A_CENT;
                units[i] = grown % UNITS_OF_A_CENT;
                interests[i] += cents;
                all += cents;
            }
            return all;
        }

        long daysUntil(int debt, long amount, int rate) {
            long missing = amount - amountOf(debt);
            if (missing <= 0) {
                return 0;
            }
            long ofADay = principals[debt] * rate;
            if (ofADay <= 0) {
                return NEVER;
            }
            long missingUnits = missing * UNITS_OF_A_CENT - units[debt];
            return (missingUnits + ofADay - 1) / ofADay;
        }

        long numberOf(int debt, int what) {
            switch (what) {
                case DEBTOR:
                    return debtors[debt];
                case CREDITOR:
                    return creditors[debt];
                case PRINCIPAL:
                    return principals[debt];
                case INTEREST:
                    return interests[debt];
                default:
                    return units[debt];
            }
        }
    }

    /** The latest entries, the oldest one first. */
    private static final class Journal {
        static final int AWARDED = 1;
        static final int DISMISSED = 2;
        static final int WITHDRAWN = 3;
        static final int CALLED = 4;
        static final int PAID = 5;
        static final int TAKEN = 6;
        static final int RETURNED = 7;
        static final int SETTLED = 8;
        static final int OFFSET = 9;
        static final int CLEARED = 10;

        int count = 0;
        final int[] kinds = new int[MOST_ENTRIES];
        final long[] amounts = new long[MOST_ENTRIES];

        void copyFrom(Journal other) {
            count = other.count;
            System.arraycopy(other.kinds, 0, kinds, 0, MOST_ENTRIES);
            System.arraycopy(other.amounts, 0, amounts, 0, MOST_ENTRIES);
        }

        boolean has(int entry) {
            return entry >= 0 && entry < count;
        }

        void addOne(int kind, long amount) {
            if (count >= MOST_ENTRIES) {
                forgetOldest();
            }
            kinds[count] = kind;
            amounts[count] = amount;
            count++;
        }

        private void forgetOldest() {
            count = MOST_ENTRIES - 1;
            for (int i = 0; i < count; i++) {
                kinds[i] = kinds[i + 1];
                amounts[i] = amounts[i + 1];
            }
        }
    }

    /** Finds the first ring of debts. */
    private static final class RingFinder {
        private static final int SHORTEST = 2;

        int length = 0;
        final int[] row = new int[MOST_PARTIES];
        // for each party, a bit for each one to which it owes something
        private final int[] creditors = new int[MOST_PARTIES];

        void findFirst(Debts debts) {
            markCreditors(debts);
            length = 0;
            for (int wanted = SHORTEST; wanted <= MOST_PARTIES; wanted++) {
                for (int first = 0; first <= MOST_PARTIES - wanted; first++) {
                    row[0] = first;
                    if (closes(creditors, row, 1, wanted)) {
                        length = wanted;
                        return;
                    }
                }
            }
        }

        int memberAfter(int index) {
            return index < length - 1 ? row[index + 1] : row[0];
        }

        private void markCreditors(Debts debts) {
            for (int i = 0; i < MOST_PARTIES; i++) {
                creditors[i] = 0;
            }
            for (int i = 0; i < debts.count; i++) {
                creditors[debts.debtors[i]] |= 1 << debts.creditors[i];
            }
        }

        private static boolean closes(int[] creditors, int[] row, int length, int wanted) {
            int owedTo = creditors[row[length - 1]];
            if (length >= wanted) {
                return (owedTo >> row[0] & 1) == 1;
            }
            for (int i = row[0] + 1; i < MOST_PARTIES; i++) {
                if ((owedTo >> i & 1) == 1 && !stands(row, length, i)) {
                    row[length] = i;
                    if (closes(creditors, row, length + 1, wanted)) {
                        return true;
                    }
                }
            }
            return false;
        }

        private static boolean stands(int[] row, int length, int party) {
            for (int i = 0; i < length; i++) {
                if (row[i] == party) {
                    return true;
                }
            }
            return false;
        }
    }

    /** The input, and the commands that its text tells. */
    private static final class Text {
        static final int CLAIM = 'c';
        static final int AWARD = 'a';
        static final int DISMISS = 'd';
        static final int WITHDRAW = 'w';
        static final int PAY = 'p';
        static final int SETTLE = 's';
        static final int PASS = 'n';
        static final int GO_ON = 'g';
        private static final int DIGITS_OF_PARTY = 1;
        private static final int DIGITS_OF_NUMBER = 3;
        private static final int DIGITS_OF_AMOUNT = 9;
        // no character of the input has this code
        private static final int END = 0;

        int length = 0;
        private final char[] characters = new char[MOST_CHARACTERS];
        // after a text that is not right, this is the error position
        int position = 0;
        private boolean isRight = true;
        int count = 0;
        final int[] kinds = new int[MOST_COMMANDS];
        final int[] firsts = new int[MOST_COMMANDS];
        final int[] seconds = new int[MOST_COMMANDS];
        final int[] amounts = new int[MOST_COMMANDS];

        int addOne(char character) {
            if (length < MOST_CHARACTERS) {
                characters[length] = character;
                length++;
            }
            return length;
        }

        void empty() {
            length = 0;
        }

        boolean parseAll() {
            position = 0;
            count = 0;
            isRight = length > 0;
            for (int i = 0; i < MOST_COMMANDS && isRight && position < length; i++) {
                parseCommand(i);
                count = i + 1;
            }
            return isRight;
        }

        private void parseCommand(int command) {
            int kind = signAhead();
            kinds[command] = kind;
            if (!isKind(kind)) {
                isRight = false;
                return;
            }
            position++;
            if (kind != GO_ON) {
                firsts[command] = takeNumber(kind == CLAIM || kind == SETTLE || kind == PAY
                        ? DIGITS_OF_PARTY : DIGITS_OF_NUMBER);
            }
            if (kind == CLAIM || kind == SETTLE) {
                takeSign('>');
                seconds[command] = takeNumber(DIGITS_OF_PARTY);
            }
            if (kind != GO_ON && kind != PASS) {
                takeSign(':');
                amounts[command] = takeNumber(DIGITS_OF_AMOUNT);
            }
            takeSign(';');
        }

        private static boolean isKind(int sign) {
            switch (sign) {
                case CLAIM:
                case AWARD:
                case DISMISS:
                case WITHDRAW:
                case PAY:
                case SETTLE:
                case PASS:
                case GO_ON:
                    return true;
                default:
                    return false;
            }
        }

        private int signAhead() {
            return position < length ? characters[position] : END;
        }

        private boolean isDigitAhead() {
            return isWithin(signAhead(), '0', '9');
        }

        private void takeSign(int sign) {
            if (!isRight) {
                return;
            }
            isRight = signAhead() == sign;
            position += isRight ? 1 : 0;
        }

        private int takeNumber(int mostDigits) {
            if (!isRight) {
                return 0;
            }
            isRight = isDigitAhead();
            int number = 0;
            for (int i = 0; i < mostDigits && isDigitAhead(); i++) {
                number = number * 10 + signAhead() - '0';
                position++;
            }
            return number;
        }
    }
}
