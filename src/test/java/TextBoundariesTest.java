/** The sentences of the terms and of promises 35 to 37 that name a boundary, one method for each. */
public final class TextBoundariesTest {
    private static final char LEAST_CODE = 32;
    private static final char MOST_CODE = 126;

    public static void main(String[] args) {
        appending();
        kindsOfEntries();
        digits();
        errorPositions();
        inputAfterwards();
        nothingOfIt();
        whatIsKept();
        Check.end();
    }

    private static ArbitrationFees withClaim() {
        ArbitrationFees x = Check.withParties(0, 1);
        x.claim(0, 1, 1000);
        return x;
    }

    private static void reads(ArbitrationFees x, String text, int due) {
        Check.due("read() of " + text, Check.read(x, text), due);
    }

    private static void isNoText(ArbitrationFees x, String text, int due) {
        Check.type(x, text);
        Check.thrown("read() of \"" + text + "\"", Check.ARGUMENT, () -> x.read());
        Check.due("errorPosition() of \"" + text + "\"", x.errorPosition(), due);
    }

    private static void cannotBeDone(ArbitrationFees x, String text) {
        Check.type(x, text);
        Check.thrown("read() of " + text, Check.STATE, () -> x.read());
    }

    private static String times(String text, int times) {
        StringBuilder all = new StringBuilder();
        for (int i = 0; i < times; i++) {
            all.append(text);
        }
        return all.toString();
    }

    // ---- promise 35

    private static void appending() {
        rangeOfCodes();
        allCodes();
        seventyCharacters();
        seventyCharactersAndAWrongOne();
        roomForCharactersAgain();
    }

    private static void rangeOfCodes() {
        Check.promise(35, "Throws IllegalArgumentException if the character code is out of range");
        ArbitrationFees x = new ArbitrationFees();
        Check.eachThrows("append", Check.ARGUMENT, n -> x.append((char) n), 0, 1, 9, 10, 31, 127, 128, 160, 255, 256, 8364,
                32767, 32768, 65535);
        // codes whose lowest bits are those of a good character
        Check.eachThrows("append", Check.ARGUMENT, n -> x.append((char) n), 'g' + 128, 'g' + 256, 'g' + 65536 - 256);
        Check.due("the least code", x.append(LEAST_CODE), 1);
        Check.due("the most code", x.append(MOST_CODE), 2);
    }

    private static void allCodes() {
        Check.promise(35, "- character: the character, with a code from 32 to 126");
        ArbitrationFees x = new ArbitrationFees();
        int length = 0;
        for (char code = LEAST_CODE; code <= MOST_CODE; code++) {
            if (length == 70) {
                Check.thrown("read", Check.ARGUMENT, () -> x.read());
                length = 0;
            }
            length++;
            Check.due("append of the code " + (int) code, x.append(code), length);
        }
    }

    private static void seventyCharacters() {
        Check.promise(35, "Throws IllegalStateException if the input has 70 characters");
        ArbitrationFees x = new ArbitrationFees();
        for (int i = 1; i <= 70; i++) {
            Check.due("append", x.append(';'), i);
        }
        Check.thrown("append the 71st", Check.STATE, () -> x.append(';'));
        Check.thrown("append the 71st again", Check.STATE, () -> x.append(LEAST_CODE));
        Check.thrown("read", Check.ARGUMENT, () -> x.read());
        Check.due("the first character is the wrong one", x.errorPosition(), 0);
    }

    private static void seventyCharactersAndAWrongOne() {
        Check.sentence("If several exceptions apply, the one that is documented first is thrown.");
        ArbitrationFees x = new ArbitrationFees();
        Check.type(x, times(";", 70));
        Check.eachThrows("append", Check.ARGUMENT, n -> x.append((char) n), 0, 31, 127, 65535);
    }

    private static void roomForCharactersAgain() {
        Check.sentence("The input is a buffer of at most 70 characters.");
        ArbitrationFees x = new ArbitrationFees();
        for (int i = 0; i < 3; i++) {
            Check.type(x, times("n0;n00;", 10));
            Check.thrown("the 71st", Check.STATE, () -> x.append('g'));
            Check.due("read() of seventy", x.read(), 20);
        }
    }

    // ---- promise 36: what is a text

    private static void kindsOfEntries() {
        emptyText();
        oneEntry();
        mostEntries();
        entriesBehindThoseBefore();
        numberOfEntries();
    }

    private static void emptyText() {
        Check.sentence("A text consists of one or several entries");
        ArbitrationFees x = withClaim();
        isNoText(x, "", 0);
        isNoText(x, ";", 0);
        isNoText(x, " ", 0);
        isNoText(x, " g;", 0);
    }

    private static void oneEntry() {
        Check.sentence("A text consists of one or several entries, each followed by a semicolon");
        ArbitrationFees x = withClaim();
        reads(x, "g;", 1);
        isNoText(x, "g", 1);
        isNoText(x, "g;g", 3);
        isNoText(x, "g;;", 2);
        isNoText(x, "g; ", 2);
        isNoText(x, "g ;", 1);
        Check.due("stage", x.account(9), 1);
    }

    private static void mostEntries() {
        Check.promise(36, "Returns the number of entries.");
        ArbitrationFees x = withClaim();
        reads(x, times("n0;", 23), 23);
        reads(x, times("n0;", 20) + times("g;", 3) + "n00;", 24);
        Check.due("stage", x.account(9), 3);
        cannotBeDone(x, times("g;", 35));
        Check.due("stage", x.account(9), 3);
        isNoText(x, times("g;", 34) + "gg", 69);
    }

    private static void entriesBehindThoseBefore() {
        Check.promise(36, "Does what the entries of the text in the input tell, in their order");
        ArbitrationFees x = Check.withParties(0, 1);
        reads(x, "c0>1:9000;w0:1;g;a0:8998;n1;s1>0:8998;d0:1;p1:5;", 8);
        Check.due("left", x.claimed(0, 6), 0);
        Check.due("owed", x.account(3), 0);
        Check.due("debts", x.account(2), 0);
        Check.due("paid", x.party(1, 3), 5);
        int[] kinds = {3, 1, 8, 2, 5};
        long[] amounts = {1, 8998, 8998, 1, 5};
        for (int i = 0; i < 5; i++) {
            Check.due("kind of " + i, x.entry(i, false), kinds[i]);
            Check.due("amount of " + i, x.entry(i, true), amounts[i]);
        }
        Check.thrown("no sixth entry", Check.NONE, () -> x.entry(5, true));
    }

    private static void numberOfEntries() {
        Check.promise(36, "Returns the number of entries.");
        ArbitrationFees x = withClaim();
        String[] kinds = {"c1>0:5;", "w0:1;", "p1:5;", "n5;", "g;", "a0:5;", "d0:5;", "s1>0:5;"};
        for (String kind : kinds) {
            reads(x, kind, 1);
        }
    }

    // ---- promise 36: digits

    private static void digits() {
        partiesAreDigits();
        claimsHaveThreeDigits();
        daysHaveThreeDigits();
        amountsHaveNineDigits();
        zerosAtTheFront();
        noDigitsAtAll();
    }

    private static void partiesAreDigits() {
        Check.sentence("Parties are digits");
        ArbitrationFees x = Check.withParties(0, 1, 0, 1, 0, 1);
        reads(x, "c5>4:7;", 1);
        Check.due("the party", x.claimed(0, 0), 5);
        Check.due("against", x.claimed(0, 1), 4);
        isNoText(x, "c00>1:5;", 2);
        isNoText(x, "c0>01:5;", 4);
        isNoText(x, "p05:5;", 2);
        isNoText(x, "s00>1:5;", 2);
        isNoText(x, "s0>01:5;", 4);
        cannotBeDone(x, "p9:5;");
        cannotBeDone(x, "p6:5;");
        reads(x, "p5:5;", 1);
    }

    private static void claimsHaveThreeDigits() {
        Check.sentence("claims and days are numbers of one to three digits");
        ArbitrationFees x = withClaim();
        x.goOn();
        for (String kind : new String[] {"a", "d", "w"}) {
            reads(x, kind + "0:1;", 1);
            reads(x, kind + "00:1;", 1);
            reads(x, kind + "000:1;", 1);
            isNoText(x, kind + "0000:1;", 4);
            isNoText(x, kind + ":1;", 1);
            cannotBeDone(x, kind + "999:1;");
            cannotBeDone(x, kind + "1:1;");
        }
        Check.due("left", x.claimed(0, 6), 991);
    }

    private static void daysHaveThreeDigits() {
        Check.sentence("claims and days are numbers of one to three digits");
        ArbitrationFees x = withClaim();
        reads(x, "n0;", 1);
        reads(x, "n9;", 1);
        reads(x, "n99;", 1);
        reads(x, "n999;", 1);
        Check.due("day", x.account(8), 1107);
        isNoText(x, "n1000;", 4);
        isNoText(x, "n0000;", 4);
        isNoText(x, "n;", 1);
        reads(x, "n000;", 1);
        Check.due("day", x.account(8), 1107);
    }

    private static void amountsHaveNineDigits() {
        Check.sentence("amounts of one to nine");
        ArbitrationFees x = Check.withParties(0, 1);
        reads(x, "p0:1;", 1);
        reads(x, "p0:100000000;", 1);
        Check.due("paid", x.party(0, 3), 100000001);
        cannotBeDone(x, "p0:100000001;");
        cannotBeDone(x, "p0:999999999;");
        isNoText(x, "p0:1000000000;", 12);
        isNoText(x, "p0:0000000001;", 12);
        isNoText(x, "p0:;", 3);
        isNoText(x, "c0>1:1000000000;", 14);
        isNoText(x, "s0>1:1000000000;", 14);
        isNoText(x, "a0:1000000000;", 12);
    }

    private static void zerosAtTheFront() {
        Check.sentence("zeros at the front are allowed.");
        ArbitrationFees x = withClaim();
        reads(x, "p0:000000001;w000:000000002;n003;", 3);
        Check.due("paid", x.party(0, 3), 1);
        Check.due("withdrawn", x.claimed(0, 5), 2);
        Check.due("day", x.account(8), 3);
        for (int i = 1; i < 12; i++) {
            x.claim(0, 1, 1000);
        }
        reads(x, "w011:08;", 1);
        Check.due("no other numbers than these", x.claimed(11, 5), 8);
        reads(x, "n010;", 1);
        Check.due("no other numbers than these", x.account(8), 13);
    }

    private static void noDigitsAtAll() {
        Check.sentence("Parties are digits; claims and days are numbers of one to three digits");
        ArbitrationFees x = withClaim();
        isNoText(x, "n-1;", 1);
        isNoText(x, "n+1;", 1);
        isNoText(x, "n 1;", 1);
        isNoText(x, "n1 ;", 2);
        isNoText(x, "n1.0;", 2);
        isNoText(x, "n/;", 1);
        isNoText(x, "n:;", 1);
        isNoText(x, "p/:5;", 1);
        isNoText(x, "p::5;", 1);
        isNoText(x, "p0:/;", 3);
        isNoText(x, "p0::;", 3);
        isNoText(x, "pa:5;", 1);
    }

    // ---- promises 36 and 37: error positions

    private static void errorPositions() {
        lengthOfATextThatOnlyLacksItsEnd();
        smallestIndex();
        fullInputWithoutItsEnd();
        lastCharacterOfAFullInput();
        wrongBehindWhatCannotBeDone();
    }

    private static void lengthOfATextThatOnlyLacksItsEnd() {
        Check.sentence("if there is no such index, it is the length of the text.");
        ArbitrationFees x = withClaim();
        for (String whole : new String[] {"c0>1:123456789;", "s0>1:123456789;", "a012:123456789;", "p0:123456789;", "n123;"}) {
            for (int length = 0; length < whole.length(); length++) {
                isNoText(x, whole.substring(0, length), length);
                isNoText(x, "g;" + whole.substring(0, length) + "!", length + 2);
            }
        }
        Check.due("nothing of it is done", x.account(9), 0);
    }

    private static void smallestIndex() {
        Check.sentence("is the smallest index k such that no text of this kind starts with the first k + 1 characters of it");
        ArbitrationFees x = withClaim();
        isNoText(x, "xyz", 0);
        isNoText(x, "gx;x", 1);
        isNoText(x, "g;x;x", 2);
        isNoText(x, "c0>1:5;c0<1", 9);
        isNoText(x, "a0>1:5;", 2);
        isNoText(x, "c0:5;", 2);
        isNoText(x, "p0>1:5;", 2);
        isNoText(x, "s0:5;", 2);
        isNoText(x, "g0;", 1);
        isNoText(x, "n5:5;", 2);
        isNoText(x, "C0>1:5;", 0);
        isNoText(x, "n1;G;", 3);
    }

    private static void fullInputWithoutItsEnd() {
        Check.sentence("if there is no such index, it is the length of the text.");
        ArbitrationFees x = withClaim();
        isNoText(x, times("g;", 34) + "n1", 70);
        isNoText(x, times("n1;", 23) + "g", 70);
        isNoText(x, times("g;", 34) + "p0", 70);
        isNoText(x, times("n0;", 19) + "c0>1:12345678", 70);
    }

    private static void lastCharacterOfAFullInput() {
        Check.sentence("is the smallest index k such that no text of this kind starts with the first k + 1 characters of it");
        ArbitrationFees x = withClaim();
        isNoText(x, times("n1;", 23) + "x", 69);
        isNoText(x, times("n1;", 23) + ";", 69);
        isNoText(x, times("g;", 34) + "n;", 69);
        isNoText(x, times("n1;", 21) + "g;n123g", 69);
    }

    private static void wrongBehindWhatCannotBeDone() {
        Check.promise(36, "Throws IllegalArgumentException if the input is not a text of this kind");
        ArbitrationFees x = withClaim();
        isNoText(x, "a0:5;x", 5);
        isNoText(x, "g;g;g;g;x", 8);
        Check.thrown("no reason is kept", Check.NONE, () -> x.reason());
    }

    // ---- promise 36: the input afterwards

    private static void inputAfterwards() {
        Check.promise(36, "The input is empty afterwards, whatever happens.");
        ArbitrationFees x = withClaim();
        reads(x, "n1;", 1);
        Check.due("behind what is done", x.append('n'), 1);
        isNoText(x, "x", 1);
        Check.due("behind what is no text", x.append('a'), 1);
        cannotBeDone(x, "0:1;");
        Check.due("behind what is refused", x.append('p'), 1);
        cannotBeDone(x, "9:1;");
        Check.due("behind what cannot be done", x.append('g'), 1);
        reads(x, ";", 1);
        isNoText(x, "", 0);
        Check.due("behind the empty text", x.append('g'), 1);
    }

    // ---- promise 36: nothing of it

    private static void nothingOfIt() {
        exceptionOfTheLastEntry();
        exceptionOfTheFirstEntry();
        partiesAndClaimsThatThereAreNot();
        amountsThatAre0();
        historyOfWhatIsNotDone();
    }

    private static void leavesAll(String text, Class<?> want, int reason) {
        ArbitrationFees x = withClaim();
        x.goOn();
        x.award(0, 500);
        String before = Answers.of(x);
        Check.type(x, text);
        Check.thrown("read() of " + text, want, () -> x.read());
        Check.dueText("all is as before " + text, Answers.of(x), before);
        if (reason > 0) {
            Check.due("reason() behind " + text, x.reason(), reason);
        } else {
            Check.thrown("no reason behind " + text, Check.NONE, () -> x.reason());
        }
        Check.due("changes behind " + text, x.undo(), 4);
    }

    private static void exceptionOfTheLastEntry() {
        Check.promise(36, "Throws IllegalStateException if the call for an entry, behind those before it, would throw an exception");
        String all = "c0>1:7;a0:7;d0:7;w0:7;p0:7;s1>0:7;n7;";
        leavesAll(all + "a0:480;", Check.STATE, 3);
        leavesAll(all + "d0:480;", Check.STATE, 3);
        leavesAll(all + "w0:480;", Check.STATE, 3);
        leavesAll(all + "s1>0:501;", Check.STATE, 4);
        leavesAll(all + "s0>1:1;", Check.STATE, 4);
        leavesAll(all + "g;w0:1;", Check.STATE, 2);
        leavesAll(all + "g;g;g;", Check.STATE, 0);
        leavesAll(all + "g;g;c0>1:1;", Check.STATE, 0);
        leavesAll(all + "c0>0:1;", Check.STATE, 0);
        leavesAll(all + "n999;n999;n999;n647;", Check.STATE, 0);
        leavesAll(all + "x", Check.ARGUMENT, 0);
        leavesAll(all + "n7", Check.ARGUMENT, 0);
    }

    private static void exceptionOfTheFirstEntry() {
        Check.promise(36, "if it is a refusal, the reason is then kept");
        leavesAll("a0:501;a1:1;", Check.STATE, 3);
        leavesAll("s1>0:501;g;g;g;", Check.STATE, 4);
        leavesAll("p2:1;a0:501;", Check.STATE, 0);
        leavesAll("c1>1:1;s1>0:501;", Check.STATE, 0);
        ArbitrationFees x = withClaim();
        cannotBeDone(x, "a0:1;g;");
        Check.due("stage 0", x.reason(), 1);
        cannotBeDone(x, "d0:2000;g;");
        Check.due("stage 0, and too much", x.reason(), 1);
        cannotBeDone(x, "p2:1;");
        Check.due("no refusal leaves the reason", x.reason(), 1);
        cannotBeDone(x, "w0:1001;");
        Check.due("too much", x.reason(), 3);
    }

    private static void partiesAndClaimsThatThereAreNot() {
        Check.sentence("In a text, parties and claims that there are not, and amounts that are 0, are right, and cannot be done.");
        for (String text : new String[] {"c2>1:5;", "c0>2:5;", "c9>9:5;", "p2:5;", "s2>0:5;", "s0>2:5;", "a1:5;", "d12:5;",
            "w999:5;"}) {
            leavesAll(text, Check.STATE, 0);
        }
    }

    private static void amountsThatAre0() {
        Check.sentence("and amounts that are 0, are right, and cannot be done.");
        for (String text : new String[] {"c0>1:0;", "p0:0;", "p0:000000000;", "s1>0:0;", "a0:0;", "d0:00;", "w0:0;"}) {
            leavesAll(text, Check.STATE, 0);
        }
        ArbitrationFees x = withClaim();
        reads(x, "n0;", 1);
    }

    private static void historyOfWhatIsNotDone() {
        Check.promise(36, "It is one change.");
        ArbitrationFees x = new ArbitrationFees();
        for (int i = 0; i < 7; i++) {
            x.pass(1);
        }
        cannotBeDone(x, "n1;g;g;g;g;");
        isNoText(x, "n1;g", 4);
        Check.due("the day", x.account(8), 7);
        Check.due("the stage", x.account(9), 0);
        for (int i = 5; i >= 0; i--) {
            Check.due("undo()", x.undo(), i);
            Check.due("the day", x.account(8), i + 1);
        }
        Check.thrown("no more", Check.NONE, () -> x.undo());
        reads(x, "n1;n1;g;", 3);
        Check.due("one change for all entries", x.undo(), 0);
        Check.due("the day", x.account(8), 1);
    }

    // ---- promise 37

    private static void whatIsKept() {
        noErrorPosition();
        untilTheNextWrongText();
        errorPositionStays();
    }

    private static void noErrorPosition() {
        Check.promise(37, "Throws NoSuchElementException if none was kept");
        ArbitrationFees x = withClaim();
        Check.thrown("new", Check.NONE, () -> x.errorPosition());
        reads(x, "n1;", 1);
        Check.thrown("a text that is done", Check.NONE, () -> x.errorPosition());
        cannotBeDone(x, "a0:1;");
        Check.thrown("a text that cannot be done", Check.NONE, () -> x.errorPosition());
        Check.type(x, "wrong");
        Check.thrown("a wrong text that is not read", Check.NONE, () -> x.errorPosition());
    }

    private static void untilTheNextWrongText() {
        Check.promise(37, "it stays until the next text that is not as told is read.");
        ArbitrationFees x = withClaim();
        isNoText(x, "n1x", 2);
        reads(x, "n1;", 1);
        Check.due("a text that is done", x.errorPosition(), 2);
        cannotBeDone(x, "a0:1;");
        Check.due("a text that cannot be done", x.errorPosition(), 2);
        Check.type(x, "xx");
        Check.due("a text that is not read yet", x.errorPosition(), 2);
        isNoText(x, "", 0);
        isNoText(x, "n12", 3);
        isNoText(x, "", 0);
    }

    private static void errorPositionStays() {
        Check.sentence("The object remembers everything except the reason, the input, the error position");
        ArbitrationFees x = withClaim();
        isNoText(x, "n1x", 2);
        x.undo();
        Check.due("behind undo", x.errorPosition(), 2);
        x.save();
        isNoText(x, "n1;x", 3);
        x.restore();
        Check.due("behind restore", x.errorPosition(), 3);
        x.clear();
        Check.due("behind clear", x.errorPosition(), 3);
    }
}
