/**
 * Every text of up to four characters, and of up to five of those that stand in entries, is read as the model reads it;
 * so is every text that differs in one character from a right one.
 */
public final class ShortTextsTest {
    private static final String ALL = "cadwpsng09>:; ";
    private static final String FEW = "cang0>:;";
    private static final String[] RIGHT = {"c0>1:5;g;", "s1>0:123456789;n0;", "a0:1;a00:01;", "d000:7;p0:000000009;", "w1:1;n999;g;"};

    public static void main(String[] args) {
        everyText(ALL, 4);
        everyText(FEW, 5);
        for (String text : RIGHT) {
            everyNeighbour(text);
        }
        Check.end();
    }

    private static void everyText(String signs, int length) {
        int count = 1;
        for (int i = 1; i <= length; i++) {
            count *= signs.length();
            for (int number = 0; number < count; number++) {
                char[] text = new char[i];
                int rest = number;
                for (int j = 0; j < i; j++) {
                    text[j] = signs.charAt(rest % signs.length());
                    rest /= signs.length();
                }
                isReadAlike(new String(text));
            }
        }
    }

    private static void everyNeighbour(String text) {
        for (int i = 0; i <= text.length(); i++) {
            for (char sign = 32; sign <= 126; sign++) {
                isReadAlike(text.substring(0, i) + sign + text.substring(i));
                if (i < text.length()) {
                    isReadAlike(text.substring(0, i) + sign + text.substring(i + 1));
                }
            }
            if (i < text.length()) {
                isReadAlike(text.substring(0, i) + text.substring(i + 1));
            }
        }
    }

    private static void isReadAlike(String text) {
        ArbitrationFees program = new ArbitrationFees();
        Model model = new Model();
        program.addParty(0, 1);
        model.addParty(0, 1);
        for (int i = 0; i < text.length(); i++) {
            program.append(text.charAt(i));
            model.append(text.charAt(i));
        }
        String got = "";
        String want = "";
        try {
            got += program.read();
        } catch (IllegalArgumentException e) {
            got += "wrong at " + program.errorPosition();
        } catch (IllegalStateException e) {
            got += "cannot be done";
        }
        try {
            want += model.read();
        } catch (IllegalArgumentException e) {
            want += "wrong at " + model.errorPosition();
        } catch (IllegalStateException e) {
            want += "cannot be done";
        }
        Check.dueText("read() of " + text, got, want);
    }
}
