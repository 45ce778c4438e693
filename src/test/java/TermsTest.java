/** The document's "Terms", sentence by sentence: a test for each one that names a boundary case. */
public final class TermsTest {
    private static final double INF = Double.POSITIVE_INFINITY;
    private static final float FINF = Float.POSITIVE_INFINITY;
    private static final boolean[] WIDTHS = {true, false};

    public static void main(String[] args) {
        useOf512Calls();
        placesHaveNoRowAtFirst();
        placesAre0To7();
        aRowMayLieInSeveral();
        rowsHave0To12Items();
        itemsAreAtFirstZero();
        bitsOfADoubleAre64();
        bitsOfAFloatAreTheLowest32();
        bitsOfAFloatAreToldAsAnInt();
        bitsOfNoNumberAreBad();
        bitsBesideThoseOfNoNumberAreGood();
        noNumberEverIsNone();
        endlessOnes();
        theOrderOfFailures();
        failuresAreToldBelowMinus10();
        badIsAheadOfAll();
        Due.end();
    }

    private static void useOf512Calls() {
        Due.by("An object is used for at most 512 calls after it has been made;");
        TideGauges x = new TideGauges();
        for (int k = 0; k < 255; k++) {
            x.row(k % 8, k % 2 == 0, 12);
            x.rack(k % 3, k % 3);
        }
        Due.due("call 511", x.tide(7, false, 11, 12), 1);
        Due.due("call 512", x.told(), Due.f(1.5f));
        TideGauges y = new TideGauges();
        for (int k = 0; k < 511; k++) {
            Due.due("gauge, call " + (k + 1), y.gauge(k % 6, k % 3, Due.d(k + 1)), 1);
        }
        Due.due("call 512", y.count(1), 6);
    }

    private static void placesHaveNoRowAtFirst() {
        Due.by("7 have a ROW or none (at first; a ROW may lie in several).");
        TideGauges x = new TideGauges();
        for (int place = 0; place < 8; place++) {
            Due.due("count of ITEMS", x.count(3 + place), Due.BAD);
            for (boolean wide : WIDTHS) {
                Due.due("get", x.get(place, wide, 0), Due.MISSING);
            }
        }
        Due.due("count(0)", x.count(0), 0);
    }

    private static void placesAre0To7() {
        Due.by("7 have a ROW or none (at first; a ROW may lie in several).");
        TideGauges x = new TideGauges();
        for (int place : new int[] {0, 7}) {
            Due.due("row", x.row(place, true, 1), 1);
            Due.due("put", x.put(place, true, 0, Due.d(place + 0.5)), 1);
        }
        for (int place : new int[] {-1, 8}) {
            Due.due("row", x.row(place, true, 1), Due.BAD);
            Due.due("share from", x.share(place, 0), Due.BAD);
            Due.due("share to", x.share(0, place), Due.BAD);
            Due.due("clear", x.clear(place), Due.BAD);
            Due.due("put", x.put(place, true, 0, 0), Due.BAD);
            Due.due("get", x.get(place, true, 0), Due.BAD);
            Due.due("rest", x.rest(place, true, 0, 0), Due.BAD);
            Due.due("turn", x.turn(place, true, 0, 0), Due.BAD);
            Due.due("tide", x.tide(place, true, 0, 0), Due.BAD);
            Due.due("sum", x.sum(place, true, 0, 0), Due.BAD);
        }
        Due.tells("get", x, x.get(0, true, 0), Due.d(0.5));
        Due.tells("get", x, x.get(7, true, 0), Due.d(7.5));
        Due.due("count(0)", x.count(0), 2);
    }

    private static void aRowMayLieInSeveral() {
        Due.by("a ROW may lie in several");
        for (boolean wide : WIDTHS) {
            TideGauges x = new TideGauges();
            x.row(3, wide, 2);
            for (int place = 0; place < 8; place++) {
                Due.due("share", x.share(3, place), 1);
            }
            Due.due("count(0)", x.count(0), 8);
            for (int place = 0; place < 8; place++) {
                Due.due("put", x.put(place, wide, 1, place + 1), 1);
                Due.tells("get in another PLACE", x, x.get(7 - place, wide, 1), place + 1);
            }
            for (int place = 0; place < 7; place++) {
                Due.due("clear", x.clear(place), 1);
                Due.tells("get in the last PLACE", x, x.get(7, wide, 1), 8);
            }
            Due.due("count(0)", x.count(0), 1);
        }
    }

    private static void rowsHave0To12Items() {
        Due.by("A ROW is WIDE (doubles) or not (floats), and has 0 .. 12 ITEMS, at first 0.0.");
        for (boolean wide : WIDTHS) {
            TideGauges x = new TideGauges();
            Due.due("row of none", x.row(0, wide, 0), 1);
            Due.due("its count", x.count(3), 0);
            Due.due("its ITEM 0", x.get(0, wide, 0), Due.OUTSIDE);
            Due.due("row of twelve", x.row(0, wide, 12), 1);
            Due.due("its count", x.count(3), 12);
            Due.due("put of its last ITEM", x.put(0, wide, 11, 77), 1);
            Due.due("its ITEM 12", x.put(0, wide, 12, 78), Due.OUTSIDE);
            Due.due("row of thirteen", x.row(0, wide, 13), Due.BAD);
            Due.due("row of -1", x.row(0, wide, -1), Due.BAD);
            Due.due("its count", x.count(3), 12);
            Due.tells("its last ITEM", x, x.get(0, wide, 11), 77);
            Due.due("as one of the other width", x.get(0, !wide, 11), Due.CAST);
        }
    }

    private static void itemsAreAtFirstZero() {
        Due.by("has 0 .. 12 ITEMS, at first 0.0.");
        for (boolean wide : WIDTHS) {
            TideGauges x = new TideGauges();
            for (int round = 0; round < 12; round++) {
                Due.due("row", x.row(round % 2, wide, 12), 1);
                for (int i = 0; i < 12; i++) {
                    Due.tells("get of a new ITEM", x, x.get(round % 2, wide, i), 0);
                    x.put(round % 2, wide, i, 5 + i);
                }
            }
        }
    }

    private static void bitsOfADoubleAre64() {
        Due.by("BITS tell a number: a double's 64, a float's 32 as the lowest ones (told: as an int).");
        long[] bits = {0, 1, 0x7FC00000L, 0xFFFFFFFFL, 0x100000000L, 0x7FEFFFFFFFFFFFFFL, 0x7FF0000000000000L,
            0x8000000000000000L, 0x8000000000000001L, 0xFFEFFFFFFFFFFFFFL, 0xFFF0000000000000L, 0x3FF8000012345678L};
        TideGauges x = new TideGauges();
        x.row(0, true, 12);
        for (int i = 0; i < bits.length; i++) {
            Due.due("put", x.put(0, true, i, bits[i]), 1);
        }
        for (int i = 0; i < bits.length; i++) {
            Due.tells("get", x, x.get(0, true, i), bits[i]);
        }
    }

    private static void bitsOfAFloatAreTheLowest32() {
        Due.by("a float's 32 as the lowest ones");
        TideGauges x = new TideGauges();
        x.row(0, false, 1);
        long[] above = {0, 1, -1, 0x7FF80000, 0x80000000, 0x7FFFFFFF};
        for (float v : new float[] {1.5f, -1.5f, 0.0f, -0.0f, FINF, -FINF, Float.MIN_VALUE, -Float.MAX_VALUE}) {
            for (long high : above) {
                long bits = high << 32 | Due.f(v) & 0xFFFFFFFFL;
                Due.due("put of " + v + "f below " + high, x.put(0, false, 0, bits), 1);
                Due.tells("get of " + v + "f", x, x.get(0, false, 0), Due.f(v));
            }
        }
    }

    private static void bitsOfAFloatAreToldAsAnInt() {
        Due.by("(told: as an int)");
        TideGauges x = Due.narrowRow(-1, -3.5f);
        long minus1 = -0x40800000L;
        Due.tells("get", x, x.get(0, false, 0), minus1);
        Due.tells("rest", x, x.rest(0, false, 1, 0), -0x41000000L);
        Due.tells("turn into a float", x, x.turn(0, false, 0, 5), minus1);
        Due.tells("sum", x, x.sum(0, false, 0, 1), minus1);
        Due.tells("tide", x, x.tide(0, false, 1, 20), -0x80000000L);
        TideGauges y = Due.wideRow(-1);
        Due.tells("turn of a double into a float", y, y.turn(0, true, 0, 5), minus1);
        Due.due("round", y.round(-1, 0), minus1);
        Due.due("round", y.round(-1, 4), minus1);
        for (int kind : new int[] {Due.STEP, Due.LONG}) {
            y.gauge(0, kind, Due.d(1));
            Due.tells("read as a float", y, y.read(0, Due.d(-1), true), minus1);
        }
    }

    private static void bitsOfNoNumberAreBad() {
        Due.by("BITS of what is no number are BAD anywhere: no number here ever is none.");
        TideGauges x = Twins.full();
        for (long bits : new long[] {0x7FF0000000000001L, 0x7FF0000100000000L, 0x7FF8000000000000L, Long.MAX_VALUE,
            0xFFF0000000000001L, 0xFFF8000000000000L, -1L}) {
            Due.due("put", x.put(0, true, 0, bits), Due.BAD);
            for (int kind = 0; kind < 3; kind++) {
                Due.due("gauge", x.gauge(kind, kind, bits), Due.BAD);
                Due.due("read", x.read(kind, bits, false), Due.BAD);
                Due.due("read as a float", x.read(kind, bits, true), Due.BAD);
            }
        }
        for (int bits : new int[] {0x7F800001, 0x7FC00000, 0x7FFFFFFF, 0xFF800001, 0xFFC00000, -1}) {
            Due.due("put of a float", x.put(1, false, 0, bits), Due.BAD);
            Due.due("put of a float, nothing above", x.put(1, false, 0, bits & 0xFFFFFFFFL), Due.BAD);
            Due.due("put of a float below a double", x.put(1, false, 0, Due.d(2) | bits & 0xFFFFFFFFL), Due.BAD);
        }
    }

    private static void bitsBesideThoseOfNoNumberAreGood() {
        Due.by("BITS of what is no number are BAD anywhere");
        TideGauges x = Twins.full();
        for (long bits : new long[] {0x7FF0000000000000L, 0x7FEFFFFFFFFFFFFFL, 0xFFF0000000000000L, 0xFFEFFFFFFFFFFFFFL,
            0x7FC00000L, 0xFFFFFFFFL, 0x7F8000017F800001L - 0x0F80000000000000L}) {
            Due.due("put", x.put(0, true, 0, bits), 1);
            Due.tells("get", x, x.get(0, true, 0), bits);
            Due.due("read", x.read(2, bits, false), 1);
        }
        for (int bits : new int[] {0x7F800000, 0x7F7FFFFF, 0xFF800000, 0xFF7FFFFF}) {
            Due.due("put of a float below what is no double", x.put(1, false, 0, 0x7FF8000000000000L | bits & 0xFFFFFFFFL), 1);
            Due.tells("get of a float", x, x.get(1, false, 0), bits);
        }
        Due.due("gauge of the greatest SPAN", x.gauge(0, 0, 0x7FEFFFFFFFFFFFFFL), 1);
        Due.due("gauge of what were no float", x.gauge(0, 0, 0x7FC00000L), 1);
    }

    /** Each way by which the language itself would answer NaN. */
    private static void noNumberEverIsNone() {
        Due.by("no number here ever is none.");
        TideGauges x = Due.wideRow(INF, -INF, 0.0, 5);
        TideGauges y = Due.narrowRow(FINF, -FINF, 0.0f, 5);
        x.get(0, true, 3);
        y.get(0, false, 3);
        int[][] pairs = {{0, 0}, {0, 1}, {0, 2}, {0, 3}, {1, 0}, {2, 2}, {3, 2}};
        for (int[] pair : pairs) {
            Due.refuses("rest", x, Due.d(5), x.rest(0, true, pair[0], pair[1]), Due.NO_NUMBER);
            Due.refuses("rest of floats", y, Due.f(5), y.rest(0, false, pair[0], pair[1]), Due.NO_NUMBER);
        }
        Due.refuses("sum", x, Due.d(5), x.sum(0, true, 0, 4), Due.NO_NUMBER);
        Due.refuses("sum of floats", y, Due.f(5), y.sum(0, false, 0, 4), Due.NO_NUMBER);
        for (int kind : new int[] {Due.STEP, Due.WRAP}) {
            x.gauge(0, kind, Due.d(3));
            Due.refuses("read", x, Due.d(5), x.read(0, Due.d(INF), false), Due.NO_NUMBER);
            Due.refuses("read as a float", x, Due.d(5), x.read(0, Due.d(-INF), true), Due.NO_NUMBER);
        }
        Due.tells("tide of ENDLESS by ENDLESS", x, x.tide(0, true, 0, 8), Due.d(INF));
        Due.tells("tide of ENDLESS floats", y, y.tide(0, false, 1, 8), Due.f(-FINF));
    }

    private static void endlessOnes() {
        Due.by("ENDLESS is an infinite one.");
        TideGauges x = Due.wideRow(INF, -INF, Double.MAX_VALUE, -Double.MAX_VALUE, 7);
        TideGauges y = Due.narrowRow(FINF, -FINF, Float.MAX_VALUE, -Float.MAX_VALUE, 7);
        for (int i = 0; i < 2; i++) {
            Due.due("rest of an ENDLESS one", x.rest(0, true, i, 4), Due.NO_NUMBER);
            Due.due("rest of an ENDLESS float", y.rest(0, false, i, 4), Due.NO_NUMBER);
        }
        for (int i = 2; i < 4; i++) {
            Due.due("rest of the greatest", x.rest(0, true, i, 4), 1);
            Due.due("rest of the greatest float", y.rest(0, false, i, 4), 1);
        }
    }

    private static void theOrderOfFailures() {
        Due.by("FAILURE 3 CAST, if its ROW is the other one; 1 MISSING, if it has none; 2 OUTSIDE, if there is no such ITEM;"
            + " in this order.");
        for (boolean wide : WIDTHS) {
            TideGauges x = new TideGauges();
            x.row(0, wide, 2);
            for (int i : new int[] {-1, 2, 99}) {
                failsAs("CAST ahead of OUTSIDE", x, 0, !wide, i, Due.CAST);
                failsAs("OUTSIDE", x, 0, wide, i, Due.OUTSIDE);
                failsAs("MISSING ahead of OUTSIDE", x, 1, wide, i, Due.MISSING);
                failsAs("MISSING ahead of OUTSIDE", x, 1, !wide, i, Due.MISSING);
            }
            failsAs("CAST", x, 0, !wide, 0, Due.CAST);
            failsAs("MISSING", x, 1, wide, 0, Due.MISSING);
            Due.due("told()", x.told(), 0);
        }
    }

    private static void failsAs(String why, TideGauges x, int place, boolean wide, int i, int want) {
        Due.due("put, " + why, x.put(place, wide, i, 1), want);
        Due.due("get, " + why, x.get(place, wide, i), want);
        Due.due("rest, " + why, x.rest(place, wide, i, 0), want);
        Due.due("rest, " + why, x.rest(place, wide, 0, i), want);
        Due.due("turn, " + why, x.turn(place, wide, i, 6), want);
        Due.due("tide, " + why, x.tide(place, wide, i, 1), want);
        Due.due("sum, " + why, x.sum(place, wide, i, 1), want);
    }

    private static void failuresAreToldBelowMinus10() {
        Due.by("A FAILURE is told as -10 less it, and changes nothing.");
        TideGauges x = Twins.full();
        Due.due("FAILURE 1", x.get(5, true, 0), -10 - 1);
        Due.due("FAILURE 2", x.get(0, true, 5), -10 - 2);
        Due.due("FAILURE 3", x.get(0, false, 0), -10 - 3);
        Due.due("FAILURE 4", x.rest(0, true, 0, 2), -10 - 4);
        Due.due("FAILURE 5", x.hang(0, 0, 2), -10 - 5);
        Due.due("FAILURE 1 of a GAUGE", x.read(5, 0, false), -10 - 1);
        Due.due("FAILURE 4 of a GAUGE", x.read(0, Due.d(INF), false), -10 - 4);
        Due.due("FAILURE 1 of a RACK", x.hang(2, 0, 0), -10 - 1);
        Due.due("FAILURE 2 of a RACK", x.take(0, 4, 0, 0), -10 - 2);
        Due.due("FAILURE 3 of a RACK", x.take(0, 0, 2, 0), -10 - 3);
        Due.due("told()", x.told(), Due.d(-31.25));
    }

    private static void badIsAheadOfAll() {
        Due.by("BAD (-1) is ahead of all.");
        Due.due("the constant", TideGauges.BAD, -1);
        long none = 0x7FF8000000000000L;
        TideGauges x = Twins.full();
        Due.due("put, ahead of CAST", x.put(1, true, 0, none), -1);
        Due.due("put, ahead of MISSING", x.put(5, true, 0, none), -1);
        Due.due("put, ahead of OUTSIDE", x.put(0, true, 5, none), -1);
        Due.due("get, ahead of OUTSIDE", x.get(8, true, -1), -1);
        Due.due("rest, ahead of OUTSIDE", x.rest(-1, true, -1, 9), -1);
        Due.due("turn, ahead of CAST", x.turn(1, true, 0, 7), -1);
        Due.due("turn, ahead of MISSING", x.turn(5, true, 0, -1), -1);
        Due.due("turn, ahead of OUTSIDE", x.turn(0, true, 5, 7), -1);
        Due.due("tide, ahead of OUTSIDE", x.tide(8, true, -1, 0), -1);
        Due.due("sum, ahead of CAST", x.sum(1, true, 0, -1), -1);
        Due.due("sum, ahead of MISSING", x.sum(5, true, 0, -1), -1);
        Due.due("sum, ahead of OUTSIDE", x.sum(0, true, 5, -1), -1);
        Due.due("read, ahead of MISSING", x.read(5, none, true), -1);
        Due.due("hang, ahead of MISSING", x.hang(2, 0, 6), -1);
        Due.due("hang, ahead of OUTSIDE", x.hang(0, 4, 6), -1);
        Due.due("take, ahead of MISSING", x.take(2, 0, 3, 0), -1);
        Due.due("take, ahead of OUTSIDE", x.take(0, 4, 3, 0), -1);
        Due.due("take, ahead of CAST", x.take(0, 0, 2, 6), -1);
    }
}
