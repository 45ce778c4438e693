import java.io.IOException;
import java.nio.file.Files;
import java.nio.file.Path;

/** What the tests share: answers that are due, and BITS of numbers. */
final class Due {
    static final int BAD = -1;
    static final int MISSING = -11;
    static final int OUTSIDE = -12;
    static final int CAST = -13;
    static final int NO_NUMBER = -14;
    static final int STORE = -15;

    static final int STEP = 0;
    static final int WRAP = 1;
    static final int LONG = 2;

    private static final Path DOCUMENT = Path.of("../shared/DOC.md");

    private static int wrong = 0;
    private static int asked = 0;
    private static String sentence = "";

    private Due() {
    }

    /** The answers from here on are due by this sentence; it must stand in the document, word by word. */
    static void by(String words) {
        sentence = ", by \"" + words + "\"";
        if (Files.exists(DOCUMENT) && !document().contains(words)) {
            wrong++;
            System.out.println("the document does not say: " + words);
        }
    }

    private static String document() {
        try {
            return Files.readString(DOCUMENT).replaceAll("\\s+", " ");
        } catch (IOException e) {
            throw new IllegalStateException("the document can't be read", e);
        }
    }

    static void due(String call, long got, long want) {
        asked++;
        if (got != want) {
            wrong++;
            System.out.println(call + " answered " + got + ", due is " + want + sentence);
        }
    }

    /** A call that is due to answer 1, and to tell something. */
    static void tells(String call, TideGauges x, int answer, long want) {
        due(call, answer, 1);
        due(call + ", told()", x.told(), want);
    }

    /** A call that is due to answer what is no success, and to leave what was told. */
    static void refuses(String call, TideGauges x, long toldBefore, int answer, int want) {
        due(call, answer, want);
        due(call + ", told()", x.told(), toldBefore);
    }

    static long d(double v) {
        return Double.doubleToRawLongBits(v);
    }

    static long f(float v) {
        return Float.floatToRawIntBits(v);
    }

    static TideGauges wideRow(double... items) {
        TideGauges x = new TideGauges();
        x.row(0, true, items.length);
        for (int i = 0; i < items.length; i++) {
            due("put of ITEM " + i, x.put(0, true, i, d(items[i])), 1);
        }
        return x;
    }

    static TideGauges narrowRow(float... items) {
        TideGauges x = new TideGauges();
        x.row(0, false, items.length);
        for (int i = 0; i < items.length; i++) {
            due("put of ITEM " + i, x.put(0, false, i, f(items[i])), 1);
        }
        return x;
    }

    static void end() {
        System.out.println(asked + " answers asked for, " + wrong + " not as due");
        if (wrong != 0) {
            System.exit(1);
        }
    }
}
