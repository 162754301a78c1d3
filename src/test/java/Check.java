import java.util.function.IntConsumer;

/** What all tests of the project use: it prints each answer that is not the one that is due. */
final class Check {
    static final int LEAST = Integer.MIN_VALUE;
    static final int MOST = Integer.MAX_VALUE;
    static final Class<?> INDEX = IndexOutOfBoundsException.class;
    static final Class<?> ARGUMENT = IllegalArgumentException.class;
    static final Class<?> STATE = IllegalStateException.class;
    static final Class<?> REFUSED = UnsupportedOperationException.class;
    static final Class<?> NONE = java.util.NoSuchElementException.class;
    static final Class<?> ARITHMETIC = ArithmeticException.class;

    private static int asked = 0;
    private static int wrong = 0;
    private static String sentence = "";

    private Check() {
    }

    /** The words of the document for which is asked from here on; they are printed with what is wrong. */
    static void sentence(String words) {
        sentence = " [" + words + "]";
    }

    /** Words of the section of a promise. */
    static void promise(int number, String words) {
        sentence("promise " + number + ": " + words);
    }

    static void due(String call, long got, long want) {
        asked++;
        if (got != want) {
            fail(call + " answered " + got + ", due is " + want);
        }
    }

    static void dueDouble(String call, double got, double want) {
        asked++;
        if (Double.compare(got, want) != 0) {
            fail(call + " answered " + got + ", due is " + want);
        }
    }

    static void dueText(String call, String got, String want) {
        asked++;
        if (!got.equals(want)) {
            fail(call + " answered " + got + ", due is " + want);
        }
    }

    /** The class must be the very one: a class below it is what the machine throws. */
    static void thrown(String call, Class<?> want, Runnable what) {
        asked++;
        Class<?> got = null;
        try {
            what.run();
        } catch (RuntimeException e) {
            got = e.getClass();
        }
        if (got != want) {
            fail(call + " throws " + got + ", due is " + want);
        }
    }

    /** Each of these numbers makes the call throw. */
    static void eachThrows(String call, Class<?> want, IntConsumer what, int... numbers) {
        for (int number : numbers) {
            thrown(call + " of " + number, want, () -> what.accept(number));
        }
    }

    static void refused(String call, ArbitrationFees x, int reason, Runnable what) {
        thrown(call, REFUSED, what);
        due("reason() behind " + call, x.reason(), reason);
    }

    static void fail(String text) {
        wrong++;
        System.out.println("promise broken: " + text + sentence);
    }

    static void type(ArbitrationFees x, String text) {
        for (int i = 0; i < text.length(); i++) {
            x.append(text.charAt(i));
        }
    }

    static int read(ArbitrationFees x, String text) {
        type(x, text);
        return x.read();
    }

    /** Parties on the sides that are told, all of weight 1. */
    static ArbitrationFees withParties(int... sides) {
        ArbitrationFees x = new ArbitrationFees();
        for (int side : sides) {
            x.addParty(side, 1);
        }
        return x;
    }

    /** A debt of a party to another one on the other side, by a claim that is awarded; needs a stage above 0. */
    static void owe(ArbitrationFees x, int party, int other, int amount) {
        x.award(x.claim(other, party, amount), amount);
    }

    static void end() {
        System.out.println(asked + " answers asked, " + wrong + " wrong");
        if (wrong != 0) {
            System.exit(1);
        }
    }
}
