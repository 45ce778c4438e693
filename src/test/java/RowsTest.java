/** Promises 1 to 6: a new object, row, share, clear, put, get. */
public final class RowsTest {
    private static final int PLACES = 8;
    private static final int MOST_ITEMS = 12;
    private static final double INF = Double.POSITIVE_INFINITY;

    public static void main(String[] args) {
        promise1NewObject();
        promise2Row();
        promise2RowIsWrong();
        promise3Share();
        promise3ShareIsWrong();
        promise4Clear();
        promise5Put();
        promise5PutIsWrong();
        promise5PutFloatTakesTheLowestBits();
        promise6Get();
        promise6GetIsWrong();
        Due.end();
    }

    private static void promise1NewObject() {
        TideGauges x = new TideGauges();
        for (int what = 0; what < 3; what++) {
            Due.due("count(" + what + ")", x.count(what), 0);
        }
        for (int what = 3; what < 17; what++) {
            Due.due("count(" + what + ")", x.count(what), Due.BAD);
        }
        Due.due("told()", x.told(), 0);
        for (int place = 0; place < PLACES; place++) {
            Due.due("get of a new object", x.get(place, true, 0), Due.MISSING);
            Due.due("clear of a new object", x.clear(place), 0);
        }
        for (int place = 0; place < 6; place++) {
            Due.due("read of a new object", x.read(place, 0, false), Due.MISSING);
        }
        for (int rack = 0; rack < 3; rack++) {
            Due.due("hang of a new object", x.hang(rack, 0, 0), Due.MISSING);
        }
        TideGauges y = new TideGauges();
        x.row(0, true, 1);
        Due.due("another object's count(0)", y.count(0), 0);
    }

    private static void promise2Row() {
        for (int place = 0; place < PLACES; place++) {
            for (int n = 0; n <= MOST_ITEMS; n++) {
                boolean wide = (place + n) % 2 == 0;
                TideGauges x = new TideGauges();
                Due.due("row", x.row(place, wide, n), 1);
                Due.due("count(0)", x.count(0), 1);
                Due.due("count(3 + place)", x.count(3 + place), n);
                for (int i = 0; i < n; i++) {
                    x.put(place, wide, i, wide ? Due.d(1) : Due.f(1));
                }
                Due.due("row once more", x.row(place, wide, n), 1);
                for (int i = 0; i < n; i++) {
                    Due.tells("get of a new ITEM", x, x.get(place, wide, i), 0);
                }
                Due.due("get behind the last", x.get(place, wide, n), Due.OUTSIDE);
                Due.due("get as the other width", x.get(place, !wide, 0), Due.CAST);
            }
        }
    }

    private static void promise2RowIsWrong() {
        TideGauges x = Due.wideRow(1.5, 2.5);
        for (int place : new int[] {-1, PLACES, Integer.MIN_VALUE, Integer.MAX_VALUE}) {
            Due.due("row(" + place + ", true, 1)", x.row(place, true, 1), Due.BAD);
        }
        for (int n : new int[] {-1, MOST_ITEMS + 1, Integer.MIN_VALUE, Integer.MAX_VALUE}) {
            Due.due("row(0, false, " + n + ")", x.row(0, false, n), Due.BAD);
        }
        Due.due("count(0)", x.count(0), 1);
        Due.tells("get", x, x.get(0, true, 1), Due.d(2.5));
    }

    private static void promise3Share() {
        TideGauges x = Due.wideRow(1.5, 2.5);
        Due.due("share(0, 7)", x.share(0, 7), 1);
        Due.due("put through the one", x.put(7, true, 1, Due.d(-4)), 1);
        Due.tells("get through the other", x, x.get(0, true, 1), Due.d(-4));
        Due.tells("tide through the one", x, x.tide(0, true, 0, 4), Due.d(0.5));
        Due.tells("get through the other", x, x.get(7, true, 0), Due.d(0.5));
        Due.due("share(0, 0)", x.share(0, 0), 1);
        Due.due("count(0)", x.count(0), 2);
        Due.due("a new row in the one", x.row(0, false, 3), 1);
        Due.due("count of the other", x.count(10), 2);
        Due.tells("get through the other", x, x.get(7, true, 1), Due.d(-4));
        Due.due("share of none", x.share(5, 7), 0);
        Due.due("count(0)", x.count(0), 1);
        Due.due("get of what is none now", x.get(7, true, 0), Due.MISSING);
        Due.due("share of none to none", x.share(5, 6), 0);
        Due.due("share of none to itself", x.share(5, 5), 0);
    }

    private static void promise3ShareIsWrong() {
        TideGauges x = Due.wideRow(1.5);
        for (int place : new int[] {-1, PLACES, Integer.MIN_VALUE, Integer.MAX_VALUE}) {
            Due.due("share(0, " + place + ")", x.share(0, place), Due.BAD);
            Due.due("share(" + place + ", 0)", x.share(place, 0), Due.BAD);
        }
        Due.due("count(0)", x.count(0), 1);
        Due.due("count(3)", x.count(3), 1);
    }

    private static void promise4Clear() {
        TideGauges x = Due.wideRow(1.5);
        x.share(0, 1);
        Due.due("clear(0)", x.clear(0), 1);
        Due.due("clear(0) again", x.clear(0), 0);
        Due.due("count(0)", x.count(0), 1);
        Due.due("get(0)", x.get(0, true, 0), Due.MISSING);
        Due.due("get(0) as the other width", x.get(0, false, 0), Due.MISSING);
        Due.tells("get of the one that shared", x, x.get(1, true, 0), Due.d(1.5));
        x.row(2, false, 0);
        Due.due("clear of a ROW without ITEMS", x.clear(2), 1);
        for (int place : new int[] {-1, PLACES, Integer.MIN_VALUE, Integer.MAX_VALUE}) {
            Due.due("clear(" + place + ")", x.clear(place), Due.BAD);
        }
        Due.due("count(0)", x.count(0), 1);
    }

    private static void promise5Put() {
        double[] wide = {0.0, -0.0, 1.5, -31.25, Double.MIN_VALUE, -Double.MIN_VALUE, Double.MIN_NORMAL,
            Double.MAX_VALUE, -Double.MAX_VALUE, INF, -INF, 0.1};
        TideGauges x = Due.wideRow(wide);
        Due.due("put tells nothing", x.told(), 0);
        for (int i = 0; i < wide.length; i++) {
            Due.tells("get of " + wide[i], x, x.get(0, true, i), Due.d(wide[i]));
        }
        float[] narrow = {0.0f, -0.0f, 1.5f, -31.25f, Float.MIN_VALUE, -Float.MIN_VALUE, Float.MIN_NORMAL,
            Float.MAX_VALUE, -Float.MAX_VALUE, (float) INF, (float) -INF, 0.1f};
        TideGauges y = Due.narrowRow(narrow);
        for (int i = 0; i < narrow.length; i++) {
            Due.tells("get of " + narrow[i], y, y.get(0, false, i), Due.f(narrow[i]));
        }
    }

    private static void promise5PutIsWrong() {
        TideGauges x = Due.wideRow(1.5, 2.5);
        long[] none = {0x7FF8000000000000L, 0x7FF0000000000001L, 0xFFF0000000000001L, -1L, Long.MAX_VALUE};
        for (long bits : none) {
            Due.due("put of no number", x.put(0, true, 0, bits), Due.BAD);
            Due.due("put of no number, ahead of MISSING", x.put(1, true, 0, bits), Due.BAD);
            Due.due("put of no number, ahead of OUTSIDE", x.put(0, true, 2, bits), Due.BAD);
        }
        int[] noFloat = {0x7FC00000, 0x7F800001, 0xFF800001, -1, Integer.MAX_VALUE};
        for (int bits : noFloat) {
            Due.due("put of no float, ahead of CAST", x.put(0, false, 0, bits), Due.BAD);
        }
        for (int place : new int[] {-1, PLACES, Integer.MIN_VALUE, Integer.MAX_VALUE}) {
            Due.due("put(" + place + ")", x.put(place, true, 0, 0), Due.BAD);
        }
        Due.due("put, CAST ahead of OUTSIDE", x.put(0, false, 9, 0), Due.CAST);
        Due.due("put, MISSING ahead of OUTSIDE", x.put(1, true, -1, 0), Due.MISSING);
        for (int i : new int[] {-1, 2, Integer.MIN_VALUE, Integer.MAX_VALUE}) {
            Due.due("put of ITEM " + i, x.put(0, true, i, 0), Due.OUTSIDE);
        }
        Due.tells("get", x, x.get(0, true, 0), Due.d(1.5));
        Due.tells("get", x, x.get(0, true, 1), Due.d(2.5));
    }

    private static void promise5PutFloatTakesTheLowestBits() {
        TideGauges x = Due.narrowRow(0, 0);
        Due.due("put below other bits", x.put(0, false, 0, 0x7FF8000000000000L | Due.f(1.5f)), 1);
        Due.tells("get", x, x.get(0, false, 0), Due.f(1.5f));
        Due.due("put without the bits above", x.put(0, false, 1, Due.f(-1.5f) & 0xFFFFFFFFL), 1);
        Due.tells("get", x, x.get(0, false, 1), Due.f(-1.5f));
        Due.due("put of no float below other bits", x.put(0, false, 1, 0x100000000L | 0x7FC00000L), Due.BAD);
        TideGauges y = Due.wideRow(0);
        Due.due("put of what were no float", y.put(0, true, 0, 0x7FC00000L), 1);
        Due.tells("get", y, y.get(0, true, 0), 0x7FC00000L);
    }

    private static void promise6Get() {
        TideGauges x = Due.wideRow(1.5, -0.0);
        Due.tells("get", x, x.get(0, true, 1), Due.d(-0.0));
        Due.tells("get", x, x.get(0, true, 0), Due.d(1.5));
        TideGauges y = Due.narrowRow(1.5f, -0.0f);
        Due.tells("get", y, y.get(0, false, 1), Due.f(-0.0f));
        Due.tells("get", y, y.get(0, false, 0), Due.f(1.5f));
    }

    private static void promise6GetIsWrong() {
        TideGauges x = Due.narrowRow(1.5f, 2.5f);
        x.get(0, false, 1);
        long before = Due.f(2.5f);
        for (int place : new int[] {-1, PLACES, Integer.MIN_VALUE, Integer.MAX_VALUE}) {
            Due.refuses("get(" + place + ")", x, before, x.get(place, false, 0), Due.BAD);
        }
        Due.refuses("get, CAST ahead of OUTSIDE", x, before, x.get(0, true, 2), Due.CAST);
        Due.refuses("get, MISSING ahead of OUTSIDE", x, before, x.get(1, false, 2), Due.MISSING);
        for (int i : new int[] {-1, 2, Integer.MIN_VALUE, Integer.MAX_VALUE}) {
            Due.refuses("get of ITEM " + i, x, before, x.get(0, false, i), Due.OUTSIDE);
        }
        x.row(3, true, 0);
        Due.refuses("get of a ROW without ITEMS", x, before, x.get(3, true, 0), Due.OUTSIDE);
    }
}
