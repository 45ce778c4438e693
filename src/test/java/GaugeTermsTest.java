/** What the "Terms" say of GAUGES and RACKS, sentence by sentence. */
public final class GaugeTermsTest {
    private static final double INF = Double.POSITIVE_INFINITY;
    private static final float FINF = Float.POSITIVE_INFINITY;
    private static final double GREATEST = Double.MAX_VALUE;
    private static final double LEAST = Double.MIN_VALUE;
    private static final boolean[] WAYS = {false, true};

    public static void main(String[] args) {
        placesHaveNoGaugeAtFirst();
        placesAre0To5();
        placesAreTheirOwn();
        spansAreNeither0NorEndless();
        spansAtTheEdgesAreGood();
        whatAStepTells();
        aStepOfTheEdges();
        aStepOfEndlessIsNoNumber();
        whatAWrapTells();
        aWrapBelow0();
        aWrapOf0();
        aWrapOfWhatIsRounded();
        aWrapOfEndlessIsNoNumber();
        whatALongTells();
        aLongBeyondTheLongs();
        toldAsAFloat();
        toldAsAFloatBeyondTheFloats();
        aLongToldAsAFloat();
        racksAre0To2();
        racksHave4Hooks();
        racksHoldWhatFits();
        racksHoldNone();
        Due.end();
    }

    private static TideGauges withGauge(int kind, double span) {
        TideGauges x = new TideGauges();
        Due.due("gauge of " + span, x.gauge(0, kind, Due.d(span)), 1);
        return x;
    }

    private static void readIs(int kind, double span, double v, double want) {
        TideGauges x = withGauge(kind, span);
        Due.tells("read of " + v + " by KIND " + kind + " of " + span, x, x.read(0, Due.d(v), false), Due.d(want));
    }

    private static void readAsFloatIs(int kind, double span, double v, float want) {
        TideGauges x = withGauge(kind, span);
        Due.tells("read of " + v + " by KIND " + kind + " of " + span + " as a float", x, x.read(0, Due.d(v), true),
            Due.f(want));
    }

    /** By a SPAN of either sign. */
    private static void stepIs(double span, double v, double want) {
        readIs(Due.STEP, span, v, want);
        readIs(Due.STEP, -span, v, want);
    }

    private static void wrapIs(double span, double v, double want) {
        readIs(Due.WRAP, span, v, want);
        readIs(Due.WRAP, -span, v, want);
    }

    private static void placesHaveNoGaugeAtFirst() {
        Due.by("PLACES 0 .. 5 of their own have a GAUGE or none (at first)");
        TideGauges x = new TideGauges();
        for (int place = 0; place < 6; place++) {
            Due.due("count of the KIND", x.count(11 + place), Due.BAD);
            Due.due("read", x.read(place, Due.d(1), false), Due.MISSING);
        }
        Due.due("count(1)", x.count(1), 0);
    }

    private static void placesAre0To5() {
        Due.by("PLACES 0 .. 5 of their own have a GAUGE or none (at first)");
        TideGauges x = new TideGauges();
        x.rack(0, Due.STEP);
        for (int place : new int[] {0, 5}) {
            Due.due("gauge", x.gauge(place, Due.STEP, Due.d(place + 2)), 1);
            Due.due("hang", x.hang(0, 0, place), 1);
            Due.due("take", x.take(0, 0, Due.STEP, place), 1);
        }
        for (int place : new int[] {-1, 6}) {
            Due.due("gauge", x.gauge(place, Due.STEP, Due.d(1)), Due.BAD);
            Due.due("read", x.read(place, 0, false), Due.BAD);
            Due.due("hang", x.hang(0, 0, place), Due.BAD);
            Due.due("take", x.take(0, 0, Due.STEP, place), Due.BAD);
        }
        Due.tells("read", x, x.read(0, Due.d(9), false), Due.d(8));
        Due.tells("read", x, x.read(5, Due.d(9), false), Due.d(7));
        Due.due("count(1)", x.count(1), 2);
    }

    private static void placesAreTheirOwn() {
        Due.by("PLACES 0 .. 5 of their own");
        TideGauges x = new TideGauges();
        x.gauge(0, Due.STEP, Due.d(2));
        Due.due("get where a GAUGE is", x.get(0, true, 0), Due.MISSING);
        Due.due("row where a GAUGE is", x.row(0, true, 1), 1);
        Due.due("clear of it", x.clear(0), 1);
        Due.due("count(1)", x.count(1), 1);
        x.row(1, true, 1);
        Due.due("read where a ROW is", x.read(1, 0, false), Due.MISSING);
        Due.due("share from where a GAUGE is", x.share(0, 1), 0);
        Due.tells("read", x, x.read(0, Due.d(3), false), Due.d(2));
    }

    private static void spansAreNeither0NorEndless() {
        Due.by("of a KIND with a SPAN (a double, neither 0 nor ENDLESS).");
        for (int kind = 0; kind < 3; kind++) {
            TideGauges x = withGauge(kind, 2);
            for (double span : new double[] {0.0, -0.0, INF, -INF}) {
                Due.due("gauge of " + span, x.gauge(0, 2 - kind, Due.d(span)), Due.BAD);
                Due.due("gauge of " + span + " where none is", x.gauge(1, kind, Due.d(span)), Due.BAD);
            }
            Due.due("the KIND there was", x.count(11), kind);
            Due.due("the KIND where none was", x.count(12), Due.BAD);
            Due.due("count(1)", x.count(1), 1);
        }
    }

    private static void spansAtTheEdgesAreGood() {
        Due.by("of a KIND with a SPAN (a double, neither 0 nor ENDLESS).");
        for (int kind = 0; kind < 3; kind++) {
            TideGauges x = new TideGauges();
            for (double span : new double[] {LEAST, -LEAST, Double.MIN_NORMAL, GREATEST, -GREATEST}) {
                Due.due("gauge of " + span, x.gauge(0, kind, Due.d(span)), 1);
                Due.due("read by it", x.read(0, Due.d(1), false), 1);
            }
        }
        stepIs(LEAST, 1, 1);
        stepIs(GREATEST, 1, 0.0);
        stepIs(GREATEST, GREATEST, GREATEST);
        stepIs(GREATEST, -GREATEST, -GREATEST);
    }

    private static void whatAStepTells() {
        Due.by("0 STEP: v less the REST of v by SPAN");
        stepIs(2.5, 12, 10);
        stepIs(2.5, -12, -10);
        stepIs(2.5, 2.5, 2.5);
        stepIs(2.5, Math.nextDown(2.5), 0.0);
        stepIs(2.5, -2.5, -2.5);
        stepIs(2.5, Math.nextUp(-2.5), 0.0);
        stepIs(0.1, 0.3, 0.3 - 0.09999999999999998);
        stepIs(3, 1e16, 1e16);
        stepIs(3, 9007199254740991.0, 9007199254740990.0);
    }

    private static void aStepOfTheEdges() {
        Due.by("0 STEP: v less the REST of v by SPAN");
        // -0.0 less the REST -0.0 is 0.0; so is what is less than a SPAN, less itself.
        stepIs(5, 0.0, 0.0);
        stepIs(5, -0.0, 0.0);
        stepIs(5, 3, 0.0);
        stepIs(5, -3, 0.0);
        stepIs(5, -LEAST, 0.0);
        stepIs(1, GREATEST, GREATEST);
        stepIs(1, -GREATEST, -GREATEST);
        stepIs(LEAST, -LEAST, -LEAST);
        stepIs(2 * LEAST, 3 * LEAST, 2 * LEAST);
        stepIs(0x1p971, GREATEST, GREATEST);
        stepIs(0x1p1023, GREATEST, 0x1p1023);
    }

    private static void isNoNumber(int kind) {
        for (double v : new double[] {INF, -INF}) {
            for (boolean single : WAYS) {
                TideGauges x = withGauge(kind, 2);
                x.read(0, Due.d(3), false);
                long before = x.told();
                Due.refuses("read of " + v, x, before, x.read(0, Due.d(v), single), Due.NO_NUMBER);
                Due.tells("read after it", x, x.read(0, Due.d(3), false), before);
            }
        }
        for (double v : new double[] {GREATEST, -GREATEST}) {
            for (boolean single : WAYS) {
                TideGauges x = withGauge(kind, 2);
                Due.due("read of " + v, x.read(0, Due.d(v), single), 1);
            }
        }
    }

    private static void aStepOfEndlessIsNoNumber() {
        Due.by("(NO NUMBER, if v is ENDLESS)");
        isNoNumber(Due.STEP);
    }

    private static void whatAWrapTells() {
        Due.by("1 WRAP (it is a STEP): v less what a STEP tells of v");
        wrapIs(2.5, 12, 2);
        wrapIs(2.5, 2.5, 0.0);
        wrapIs(2.5, Math.nextDown(2.5), Math.nextDown(2.5));
        wrapIs(5, 3, 3);
        wrapIs(5, LEAST, LEAST);
        wrapIs(GREATEST, 1, 1);
        wrapIs(GREATEST, GREATEST, 0.0);
        wrapIs(LEAST, GREATEST, 0.0);
    }

    private static void aWrapBelow0() {
        Due.by("if that is below 0, it and the size of SPAN.");
        wrapIs(2.5, -12, 0.5);
        wrapIs(5, -3, 2);
        wrapIs(5, -5, 0.0);
        wrapIs(5, Math.nextDown(-5.0), Math.nextDown(-5.0) + 5 + 5);
        wrapIs(5, Math.nextUp(-5.0), 5 + Math.nextUp(-5.0));
        // So little below 0 that with the SPAN it is the SPAN itself.
        wrapIs(5, -LEAST, 5);
        wrapIs(1, -0x1p-60, 1);
        wrapIs(1, -0x1p-53, Math.nextDown(1.0));
        wrapIs(GREATEST, -1, GREATEST);
        wrapIs(GREATEST, -0x1p1023, GREATEST - 0x1p1023);
        wrapIs(3 * LEAST, -LEAST, 2 * LEAST);
    }

    private static void aWrapOf0() {
        Due.by("if that is below 0, it and the size of SPAN.");
        // -0.0 less the STEP's 0.0 is -0.0, which is not below 0.
        wrapIs(5, -0.0, -0.0);
        wrapIs(5, 0.0, 0.0);
        wrapIs(5, 10, 0.0);
        wrapIs(5, -10, 0.0);
    }

    private static void aWrapOfWhatIsRounded() {
        Due.by("v less what a STEP tells of v");
        // The STEP is rounded, so that the WRAP is not the REST.
        wrapIs(3, 1e16, 0.0);
        wrapIs(3, 1e16 + 4, 2);
        wrapIs(0.1, 0.3, 0.3 - (0.3 - 0.09999999999999998));
        wrapIs(7, 1e300, 0.0);
        wrapIs(7, -1e300, 0.0);
    }

    private static void aWrapOfEndlessIsNoNumber() {
        Due.by("(NO NUMBER likewise)");
        isNoNumber(Due.WRAP);
    }

    private static void whatALongTells() {
        Due.by("2 LONG: v TURNED into a long, as a double.");
        for (double span : new double[] {1, -3, LEAST, GREATEST}) {
            readIs(Due.LONG, span, 7.9, 7);
            readIs(Due.LONG, span, -7.9, -7);
            readIs(Due.LONG, span, 0.9, 0.0);
            readIs(Due.LONG, span, -0.9, 0.0);
            readIs(Due.LONG, span, -0.0, 0.0);
            readIs(Due.LONG, span, 4503599627370495.5, 4503599627370495.0);
        }
    }

    private static void aLongBeyondTheLongs() {
        Due.by("2 LONG: v TURNED into a long, as a double.");
        readIs(Due.LONG, 2, 0x1.fffffffffffffp62, 0x1.fffffffffffffp62);
        readIs(Due.LONG, 2, 0x1p63, 0x1p63);
        readIs(Due.LONG, 2, 0x1p64, 0x1p63);
        readIs(Due.LONG, 2, -0x1p63, -0x1p63);
        readIs(Due.LONG, 2, -0x1.0000000000001p63, -0x1p63);
        readIs(Due.LONG, 2, GREATEST, 0x1p63);
        readIs(Due.LONG, 2, INF, 0x1p63);
        readIs(Due.LONG, 2, -INF, -0x1p63);
    }

    private static void toldAsAFloat() {
        Due.by("What is TOLD as a float: that TURNED into a float;");
        readAsFloatIs(Due.STEP, 1, 16777217.5, 16777216);
        readAsFloatIs(Due.STEP, 1, 16777219.5, 16777220);
        readAsFloatIs(Due.STEP, 1, -16777217.5, -16777216);
        readAsFloatIs(Due.STEP, 5, -0.0, 0.0f);
        readAsFloatIs(Due.WRAP, 5, -0.0, -0.0f);
        readAsFloatIs(Due.WRAP, 1, -0x1p-30, 1);
        readAsFloatIs(Due.WRAP, 16777220, 16777217, 16777216);
        // The double is told by its own SPAN first: as a float v were 16777216, and its WRAP 0.
        readAsFloatIs(Due.WRAP, 16777216, 16777217, 1);
        readAsFloatIs(Due.STEP, 0.1, 0.1, 0.1f);
    }

    private static void toldAsAFloatBeyondTheFloats() {
        Due.by("What is TOLD as a float: that TURNED into a float;");
        readAsFloatIs(Due.STEP, 1, 1e300, FINF);
        readAsFloatIs(Due.STEP, 1, -1e300, -FINF);
        readAsFloatIs(Due.STEP, 0x1p127, 0x1.fffffefffffffp127, 0x1p127f);
        readAsFloatIs(Due.STEP, 1, 0x1.fffffefffffffp127, Float.MAX_VALUE);
        readAsFloatIs(Due.STEP, 1, 0x1.ffffffp127, FINF);
        readAsFloatIs(Due.WRAP, 1e300, -1, FINF);
        readAsFloatIs(Due.WRAP, 1, 0x1p-150, 0.0f);
        readAsFloatIs(Due.WRAP, 1, 0x1.8p-150, Float.MIN_VALUE);
    }

    private static void aLongToldAsAFloat() {
        Due.by("but of a LONG: v TURNED into a float, that into a long, that into a float.");
        readAsFloatIs(Due.LONG, 2, 7.9, 7);
        readAsFloatIs(Due.LONG, 2, -7.9, -7);
        readAsFloatIs(Due.LONG, 2, -0.5, 0.0f);
        readAsFloatIs(Due.LONG, 2, -0.0, 0.0f);
        // Each is nearer to the float above, though as a double it is cut below it.
        readAsFloatIs(Due.LONG, 2, Math.nextDown(1.0), 1);
        readAsFloatIs(Due.LONG, 2, Math.nextDown(8.0), 8);
        readAsFloatIs(Due.LONG, 2, Math.nextUp(-8.0), -8);
        readAsFloatIs(Due.LONG, 2, 16777217.5, 16777218);
        readAsFloatIs(Due.LONG, 2, 16777217, 16777216);
        readAsFloatIs(Due.LONG, 2, 0x1.fffffffffffffp62, 0x1p63f);
        readAsFloatIs(Due.LONG, 2, 1e300, 0x1p63f);
        readAsFloatIs(Due.LONG, 2, INF, 0x1p63f);
        readAsFloatIs(Due.LONG, 2, -INF, -0x1p63f);
        readAsFloatIs(Due.LONG, 2, LEAST, 0.0f);
    }

    private static void racksAre0To2() {
        Due.by("RACKS 0 .. 2 have 4 hooks, made for a KIND");
        TideGauges x = new TideGauges();
        for (int rack : new int[] {0, 2}) {
            Due.due("hang on no RACK", x.hang(rack, 0, 0), Due.MISSING);
            Due.due("take from no RACK", x.take(rack, 0, 0, 0), Due.MISSING);
            Due.due("rack", x.rack(rack, 0), 1);
            Due.due("hang", x.hang(rack, 0, 0), 1);
            Due.due("take", x.take(rack, 0, 0, 0), 0);
        }
        for (int rack : new int[] {-1, 3}) {
            Due.due("rack", x.rack(rack, 0), Due.BAD);
            Due.due("hang", x.hang(rack, 0, 0), Due.BAD);
            Due.due("take", x.take(rack, 0, 0, 0), Due.BAD);
        }
        Due.due("count(2)", x.count(2), 2);
    }

    private static void racksHave4Hooks() {
        Due.by("RACKS 0 .. 2 have 4 hooks, made for a KIND");
        TideGauges x = new TideGauges();
        for (int rack = 0; rack < 3; rack++) {
            x.rack(rack, Due.STEP);
        }
        for (int hook = 0; hook < 12; hook++) {
            x.gauge(0, Due.STEP, Due.d(hook + 20));
            Due.due("hang", x.hang(hook / 4, hook % 4, 0), 1);
        }
        for (int hook = 0; hook < 12; hook++) {
            Due.due("take", x.take(hook / 4, hook % 4, Due.STEP, 1), 1);
            Due.tells("read of it", x, x.read(1, Due.d(hook + 20.5), false), Due.d(hook + 20));
        }
        for (int rack = 0; rack < 3; rack++) {
            for (int i : new int[] {-1, 4}) {
                Due.due("hang on hook " + i, x.hang(rack, i, 0), Due.OUTSIDE);
                Due.due("take from hook " + i, x.take(rack, i, Due.STEP, 0), Due.OUTSIDE);
            }
        }
    }

    private static void racksHoldWhatFits() {
        Due.by("they hold GAUGES of that KIND (of STEP: WRAPS, too), or none.");
        int[][] due = {{1, 1, Due.STORE}, {Due.STORE, 1, Due.STORE}, {Due.STORE, Due.STORE, 1}};
        for (int rackKind = 0; rackKind < 3; rackKind++) {
            for (int kind = 0; kind < 3; kind++) {
                TideGauges x = withGauge(kind, 2);
                x.rack(1, rackKind);
                Due.due("hang of KIND " + kind + " for KIND " + rackKind, x.hang(1, 3, 0), due[rackKind][kind]);
                boolean fits = due[rackKind][kind] == 1;
                Due.due("take of it", x.take(1, 3, kind, 5), fits ? 1 : 0);
                Due.due("its KIND", x.count(16), fits ? kind : Due.BAD);
            }
        }
    }

    private static void racksHoldNone() {
        Due.by("they hold GAUGES of that KIND (of STEP: WRAPS, too), or none.");
        for (int kind = 0; kind < 3; kind++) {
            TideGauges x = withGauge(kind, 2);
            x.rack(0, kind);
            for (int i = 0; i < 4; i++) {
                Due.due("hang", x.hang(0, i, 0), 1);
                Due.due("hang of none", x.hang(0, i, 5), 1);
                Due.due("take of none", x.take(0, i, kind, 4), 0);
            }
        }
    }
}
