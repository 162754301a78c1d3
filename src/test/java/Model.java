import java.math.BigInteger;
import java.util.ArrayDeque;
import java.util.ArrayList;
import java.util.Arrays;
import java.util.Deque;
import java.util.List;
import java.util.NoSuchElementException;
import java.util.regex.Matcher;
import java.util.regex.Pattern;

/**
 * A second reckoning of the document, made in other ways than the program: whole numbers without bounds, interest day
 * by day, rings from all rows of parties, texts by a pattern, and copies of lists for the history.
 */
final class Model {
    private static final Pattern ENTRY = Pattern.compile(
            "c([0-9])>([0-9]):([0-9]{1,9});|s([0-9])>([0-9]):([0-9]{1,9});|([adw])([0-9]{1,3}):([0-9]{1,9});"
                    + "|p([0-9]):([0-9]{1,9});|n([0-9]{1,3});|(g);");
    private static final Pattern TEXT = Pattern.compile("(?:" + ENTRY.pattern() + ")+");
    private static final BigInteger ZERO = BigInteger.ZERO;

    /** Side, weight, called, paid, taken, returned. */
    private List<long[]> parties = new ArrayList<>();
    /** Party, against, amount, awarded, dismissed, withdrawn. */
    private List<long[]> claims = new ArrayList<>();
    /** Debtor, creditor, principal, interest, units. */
    private List<long[]> debts = new ArrayList<>();
    /** Kind, amount. */
    private List<long[]> journal = new ArrayList<>();
    /** Rates, tiers, day and stage. */
    private long[] numbers = newNumbers();

    private int reason = 0;
    private int errorAt = -1;
    private String input = "";
    private final Deque<Object[]> past = new ArrayDeque<>();
    private Object[] saved = null;

    private static long[] newNumbers() {
        return new long[] {0, 400, 600, 900, 1000, 500, 250, 100, 0, 0};
    }

    private static List<long[]> copyOf(List<long[]> rows) {
        List<long[]> copy = new ArrayList<>();
        for (long[] row : rows) {
            copy.add(row.clone());
        }
        return copy;
    }

    private Object[] all() {
        return new Object[] {copyOf(parties), copyOf(claims), copyOf(debts), copyOf(journal), numbers.clone()};
    }

    @SuppressWarnings("unchecked")
    private void become(Object[] all) {
        parties = copyOf((List<long[]>) all[0]);
        claims = copyOf((List<long[]>) all[1]);
        debts = copyOf((List<long[]>) all[2]);
        journal = copyOf((List<long[]>) all[3]);
        numbers = ((long[]) all[4]).clone();
    }

    private void change() {
        changedFrom(all());
    }

    private void changedFrom(Object[] before) {
        past.addLast(before);
        if (past.size() > 6) {
            past.removeFirst();
        }
    }

    private void enter(int kind, long amount) {
        journal.add(new long[] {kind, amount});
        if (journal.size() > 16) {
            journal.remove(0);
        }
    }

    private static void index(boolean isThere) {
        if (!isThere) {
            throw new IndexOutOfBoundsException();
        }
    }

    private static void range(boolean isInside) {
        if (!isInside) {
            throw new IllegalArgumentException();
        }
    }

    private static void state(boolean isGood) {
        if (!isGood) {
            throw new IllegalStateException();
        }
    }

    private void refuse(boolean isRefused, int why) {
        if (isRefused) {
            reason = why;
            throw new UnsupportedOperationException();
        }
    }

    private static void exists(boolean isThere) {
        if (!isThere) {
            throw new NoSuchElementException();
        }
    }

    private int stage() {
        return (int) numbers[9];
    }

    private boolean isParty(int party) {
        return party >= 0 && party < parties.size();
    }

    private boolean isClaim(int claim) {
        return claim >= 0 && claim < claims.size();
    }

    private int sideOf(long party) {
        return (int) parties.get((int) party)[0];
    }

    // ---- parties and rates

    int clear() {
        int count = parties.size();
        become(new Object[] {List.of(), List.of(), List.of(), List.of(), newNumbers()});
        past.clear();
        return count;
    }

    int addParty(int side, int weight) {
        range((side == 0 || side == 1) && weight >= 1 && weight <= 9);
        state(parties.size() < 6);
        change();
        parties.add(new long[] {side, weight, 0, 0, 0, 0});
        return parties.size() - 1;
    }

    int setRate(int stage, int rate) {
        return setNumber(stage, 0, rate);
    }

    int setTier(int tier, int rate) {
        return setNumber(tier, 4, rate);
    }

    private int setNumber(int number, int first, int rate) {
        index(number >= 0 && number <= 3);
        range(rate >= 0 && rate <= 2000);
        change();
        int before = (int) numbers[first + number];
        numbers[first + number] = rate;
        return before;
    }

    long party(int party, int what) {
        index(isParty(party));
        range(what >= 0 && what <= 10);
        long[] row = parties.get(party);
        if (what <= 5) {
            return row[what];
        }
        switch (what) {
            case 6: return row[3] - row[4] - row[5];
            case 7: return shares(sideShare(sideOf(party)), sideOf(party))[party];
            case 8: return row[2] > row[3] ? row[2] - row[3] : 0;
            case 9: return sumOwed(party, -1);
            default: return sumOwed(-1, party);
        }
    }

    private long sumOwed(int from, int to) {
        long sum = 0;
        for (int i = 0; i < parties.size(); i++) {
            for (int j = 0; j < parties.size(); j++) {
                sum += (from < 0 || from == i) && (to < 0 || to == j) ? owed(i, j) : 0;
            }
        }
        return sum;
    }

    /** What each party gets of an amount split by weights among those of a side. */
    private long[] shares(long amount, int side) {
        long weight = side(side, 3);
        long[] parts = new long[parties.size()];
        if (weight == 0) {
            return parts;
        }
        long given = 0;
        for (int i = 0; i < parts.length; i++) {
            if (sideOf(i) == side) {
                parts[i] = BigInteger.valueOf(amount).multiply(BigInteger.valueOf(parties.get(i)[1]))
                        .divide(BigInteger.valueOf(weight)).longValueExact();
                given += parts[i];
            }
        }
        for (int i = 0; i < parts.length && given < amount; i++) {
            if (sideOf(i) == side) {
                parts[i]++;
                given++;
            }
        }
        return parts;
    }

    // ---- claims

    int claim(int party, int against, int amount) {
        index(isParty(party) && isParty(against));
        range(sideOf(party) != sideOf(against) && amount >= 1 && amount <= 100000000);
        state(claims.size() < 12 && stage() < 3);
        change();
        claims.add(new long[] {party, against, amount, 0, 0, 0});
        return claims.size() - 1;
    }

    int award(int claim, int amount) {
        return rule(claim, amount, 1);
    }

    int dismiss(int claim, int amount) {
        return rule(claim, amount, 2);
    }

    int withdraw(int claim, int amount) {
        return rule(claim, amount, 3);
    }

    private int rule(int claim, int amount, int kind) {
        index(isClaim(claim));
        range(amount >= 1);
        refuse(kind != 3 && stage() == 0, 1);
        refuse(kind == 3 && stage() > 1, 2);
        refuse(amount > claimed(claim, 6), 3);
        change();
        long[] row = claims.get(claim);
        row[2 + kind] += amount;
        if (kind == 1) {
            owe((int) row[1], (int) row[0], amount);
        }
        enter(kind, amount);
        return claimed(claim, 6);
    }

    int claimed(int claim, int what) {
        index(isClaim(claim));
        range(what >= 0 && what <= 6);
        long[] row = claims.get(claim);
        return (int) (what < 6 ? row[what] : row[2] - row[3] - row[4] - row[5]);
    }

    int reason() {
        exists(reason != 0);
        return reason;
    }

    // ---- fees and deposits

    long inDispute() {
        long sum = 0;
        for (long[] row : claims) {
            sum += row[2] - row[5];
        }
        return sum;
    }

    long fees(int tier) {
        index(tier >= -1 && tier <= 3);
        if (tier >= 0) {
            return tierFee(inDispute(), tier);
        }
        return claims.isEmpty() ? 0 : feesOf(inDispute());
    }

    private long tierFee(long sum, int tier) {
        long[] edges = {0, 1000000, 5000000, 20000000, Long.MAX_VALUE};
        long part = Math.max(0, Math.min(sum, edges[tier + 1]) - edges[tier]);
        return part * numbers[4 + tier] / 10000;
    }

    private long feesOf(long sum) {
        return tierFee(sum, 0) + tierFee(sum, 1) + tierFee(sum, 2) + tierFee(sum, 3) + 5000;
    }

    long wouldBe(int sum) {
        range(sum >= 1 && sum <= 1200000000);
        return feesOf(sum);
    }

    long side(int side, int what) {
        index(side == 0 || side == 1);
        range(what >= 0 && what <= 3);
        switch (what) {
            case 0: return lost(side);
            case 1: return sideShare(side);
            default:
        }
        long sum = 0;
        for (long[] row : parties) {
            sum += row[0] == side ? what == 2 ? 1 : row[1] : 0;
        }
        return sum;
    }

    private long lost(int side) {
        long lost = 0;
        for (long[] row : claims) {
            if (sideOf(row[0]) == side) {
                lost += row[4];
            }
            if (sideOf(row[1]) == side) {
                lost += row[3];
            }
        }
        return lost;
    }

    private long sideShare(int side) {
        long all = fees(-1);
        BigInteger both = BigInteger.valueOf(lost(0) + lost(1));
        long[] shares = new long[2];
        for (int i = 0; i < 2; i++) {
            shares[i] = both.equals(ZERO) ? all / 2
                    : BigInteger.valueOf(all).multiply(BigInteger.valueOf(lost(i))).divide(both).longValueExact();
        }
        if (shares[0] + shares[1] < all) {
            shares[0]++;
        }
        return shares[side];
    }

    long call(int amount) {
        range(amount >= 1 && amount <= 100000000);
        change();
        long sum = 0;
        for (int side = 0; side < 2; side++) {
            long[] parts = shares(side == 1 ? amount / 2 : amount - amount / 2, side);
            for (int i = 0; i < parts.length; i++) {
                parties.get(i)[2] += parts[i];
                sum += parts[i];
            }
        }
        enter(4, sum);
        return sum;
    }

    long pay(int party, int amount) {
        index(isParty(party));
        range(amount >= 1 && amount <= 100000000);
        change();
        parties.get(party)[3] += amount;
        enter(5, amount);
        return party(party, 6);
    }

    long payFor(int party, int other) {
        index(isParty(party) && isParty(other));
        range(party != other);
        long amount = party(other, 8);
        state(amount > 0);
        change();
        parties.get(other)[3] += amount;
        owe(other, party, amount);
        enter(5, amount);
        return amount;
    }

    long takeFees() {
        change();
        long sum = 0;
        for (int i = 0; i < parties.size(); i++) {
            long share = party(i, 7);
            long taken = party(i, 4);
            long part = share > taken ? Math.min(share - taken, party(i, 6)) : share - taken;
            parties.get(i)[4] += part;
            sum += part;
        }
        enter(6, sum);
        return sum;
    }

    long giveBack() {
        refuse(stage() < 3, 6);
        change();
        long sum = 0;
        for (int i = 0; i < parties.size(); i++) {
            long difference = party(i, 7) - party(i, 4);
            long beyond = party(i, 6) - (difference < 0 ? 0 : difference);
            if (beyond > 0) {
                parties.get(i)[5] += beyond;
                sum += beyond;
            }
        }
        enter(7, sum);
        return sum;
    }

    // ---- debts

    private long[] debtOf(int party, int other) {
        for (long[] row : debts) {
            if (row[0] == party && row[1] == other) {
                return row;
            }
        }
        return null;
    }

    private void owe(int party, int other, long amount) {
        long[] row = debtOf(party, other);
        if (row == null) {
            debts.add(new long[] {party, other, amount, 0, 0});
        } else {
            row[2] += amount;
        }
    }

    private void payDebt(int party, int other, long amount) {
        long[] row = debtOf(party, other);
        long rest = amount - row[3];
        row[3] = rest > 0 ? 0 : -rest;
        row[2] -= rest > 0 ? rest : 0;
        if (row[2] == 0 && row[3] == 0) {
            debts.remove(row);
        }
    }

    long owed(int party, int other) {
        index(isParty(party) && isParty(other));
        long[] row = debtOf(party, other);
        return row == null ? 0 : row[2] + row[3];
    }

    long debt(int debt, int what) {
        index(debt >= 0 && debt < debts.size());
        range(what >= 0 && what <= 4);
        return debts.get(debt)[what];
    }

    long settle(int party, int other, int amount) {
        index(isParty(party) && isParty(other));
        range(amount >= 1);
        refuse(amount > owed(party, other), 4);
        change();
        payDebt(party, other, amount);
        enter(8, amount);
        return owed(party, other);
    }

    long offset(int party, int other) {
        index(isParty(party) && isParty(other));
        range(party != other);
        long amount = Math.min(owed(party, other), owed(other, party));
        refuse(amount == 0, 5);
        change();
        payDebt(party, other, amount);
        payDebt(other, party, amount);
        enter(9, amount);
        return amount;
    }

    /** The rings of a length, by counting through all rows of that many parties in lexicographic order. */
    private int[] firstRing() {
        int count = parties.size();
        for (int length = 2; length <= count; length++) {
            int rows = (int) Math.round(Math.pow(count, length));
            for (int number = 0; number < rows; number++) {
                int[] row = new int[length];
                int rest = number;
                for (int i = length - 1; i >= 0; i--) {
                    row[i] = rest % count;
                    rest /= count;
                }
                if (isRing(row)) {
                    return row;
                }
            }
        }
        return new int[0];
    }

    private boolean isRing(int[] row) {
        for (int i = 0; i < row.length; i++) {
            if (row[i] < row[0] || owed(row[i], row[(i + 1) % row.length]) == 0) {
                return false;
            }
        }
        return Arrays.stream(row).distinct().count() == row.length;
    }

    int ring(int index) {
        int[] ring = firstRing();
        exists(index >= 0 && index < ring.length);
        return ring[index];
    }

    long clearRings() {
        change();
        long sum = 0;
        for (int[] ring = firstRing(); ring.length > 0; ring = firstRing()) {
            long least = Long.MAX_VALUE;
            for (int i = 0; i < ring.length; i++) {
                least = Math.min(least, owed(ring[i], ring[(i + 1) % ring.length]));
            }
            for (int i = 0; i < ring.length; i++) {
                payDebt(ring[i], ring[(i + 1) % ring.length], least);
                sum += least;
            }
        }
        enter(10, sum);
        return sum;
    }

    long net(int party) {
        index(isParty(party));
        return sumOwed(-1, party) - sumOwed(party, -1);
    }

    /** What a debt has as its interest and units after one day more. */
    private void grow(long[] row) {
        row[4] += row[2] * numbers[stage()];
        while (row[4] >= 3600000) {
            long cents = row[4] > 3600000000L ? 1000 : 1;
            row[3] += cents;
            row[4] -= cents * 3600000;
        }
    }

    int growsTo(int debt, int amount) {
        index(debt >= 0 && debt < debts.size());
        range(amount >= 1 && amount <= 1000000000);
        long[] row = debts.get(debt).clone();
        for (int days = 0; days <= 3650; days++) {
            if (row[2] + row[3] >= amount) {
                return days;
            }
            grow(row);
        }
        throw new NoSuchElementException();
    }

    long pass(int days) {
        range(days >= 0 && days <= 999);
        state(numbers[8] + days <= 3650);
        change();
        long before = account(3);
        for (int i = 0; i < days; i++) {
            debts.forEach(this::grow);
        }
        numbers[8] += days;
        return account(3) - before;
    }

    int goOn() {
        state(stage() < 3);
        change();
        numbers[9]++;
        return stage();
    }

    // ---- accounts

    long account(int account) {
        range(account >= 0 && account <= 11);
        switch (account) {
            case 0: return parties.size();
            case 1: return claims.size();
            case 2: return debts.size();
            case 3: return sumOwed(-1, -1);
            case 8: return numbers[8];
            case 9: return numbers[9];
            default:
        }
        long sum = 0;
        if (account == 10) {
            for (int i = 0; i < claims.size(); i++) {
                sum += claimed(i, 6);
            }
            return sum;
        }
        int what = account == 11 ? 8 : account - 1;
        for (int i = 0; i < parties.size(); i++) {
            sum += party(i, what);
        }
        return sum;
    }

    long entry(int entry, boolean isAmount) {
        exists(entry >= 0 && entry < journal.size());
        return journal.get(entry)[isAmount ? 1 : 0];
    }

    double quota(int side) {
        index(side == 0 || side == 1);
        long awarded = 0;
        long sought = 0;
        for (long[] row : claims) {
            if (sideOf(row[0]) == side) {
                awarded += row[3];
                sought += row[2] - row[5];
            }
        }
        if (sought == 0) {
            throw new ArithmeticException();
        }
        return (double) awarded / (double) sought;
    }

    // ---- texts, history and saving

    int append(char character) {
        range(character >= 32 && character <= 126);
        state(input.length() < 70);
        input += character;
        return input.length();
    }

    private static int errorIn(String text) {
        for (int k = 0; k < text.length(); k++) {
            Matcher start = TEXT.matcher(text.substring(0, k + 1));
            if (!start.matches() && !start.hitEnd()) {
                return k;
            }
        }
        return text.length();
    }

    int read() {
        String text = input;
        input = "";
        if (!TEXT.matcher(text).matches()) {
            errorAt = errorIn(text);
            throw new IllegalArgumentException();
        }
        Object[] before = all();
        List<Object[]> pastBefore = new ArrayList<>(past);
        int entries = 0;
        boolean isDone = true;
        Matcher entry = ENTRY.matcher(text);
        while (isDone && entry.find()) {
            try {
                perform(entry);
                entries++;
            } catch (RuntimeException e) {
                isDone = false;
            }
        }
        past.clear();
        past.addAll(pastBefore);
        if (!isDone) {
            become(before);
            throw new IllegalStateException();
        }
        changedFrom(before);
        return entries;
    }

    private void perform(Matcher entry) {
        String text = entry.group();
        String[] parts = text.substring(1, text.length() - 1).split("[>:]");
        int[] given = new int[3];
        for (int i = 0; i < parts.length; i++) {
            given[i] = parts[i].isEmpty() ? 0 : Integer.parseInt(parts[i]);
        }
        switch (text.charAt(0)) {
            case 'c': claim(given[0], given[1], given[2]); break;
            case 'a': award(given[0], given[1]); break;
            case 'd': dismiss(given[0], given[1]); break;
            case 'w': withdraw(given[0], given[1]); break;
            case 'p': pay(given[0], given[1]); break;
            case 's': settle(given[0], given[1], given[2]); break;
            case 'n': pass(given[0]); break;
            default: goOn(); break;
        }
    }

    int errorPosition() {
        exists(errorAt >= 0);
        return errorAt;
    }

    int undo() {
        exists(!past.isEmpty());
        become(past.removeLast());
        return past.size();
    }

    int save() {
        saved = all();
        return claims.size();
    }

    int restore() {
        state(saved != null);
        become(saved);
        past.clear();
        return claims.size();
    }
}
