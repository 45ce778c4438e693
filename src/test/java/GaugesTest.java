/** Promises 12 to 18: gauge, read, rack, hang, take, told, count. */
public final class GaugesTest {
    private static final double INF = Double.POSITIVE_INFINITY;
    private static final float FINF = Float.POSITIVE_INFINITY;
    private static final long[] NO_NUMBERS = {0x7FF8000000000000L, 0x7FF0000000000001L, 0xFFF0000000000001L, -1L};
    private static final int[] WRONG_PLACES = {-1, 6, Integer.MIN_VALUE, Integer.MAX_VALUE};
    private static final int[] WRONG_KINDS = {-1, 3, Integer.MIN_VALUE, Integer.MAX_VALUE};
    private static final int[] WRONG_RACKS = {-1, 3, Integer.MIN_VALUE, Integer.MAX_VALUE};
    private static final int[] WRONG_HOOKS = {-1, 4, Integer.MIN_VALUE, Integer.MAX_VALUE};

    public static void main(String[] args) {
        promise12Gauge();
        promise12GaugeIsWrong();
        promise13ReadOfAStep();
        promise13ReadOfAWrap();
        promise13ReadOfALong();
        promise13ReadIsWrong();
        promise14Rack();
        promise14RackIsWrong();
        promise15Hang();
        promise15HangOfNone();
        promise15HangIsWrong();
        promise16Take();
        promise16TakeOfNone();
        promise16TakeIsWrong();
        promise17Told();
        promise18Count();
        promise18CountIsWrong();
        Due.end();
    }

    private static TideGauges withGauge(int kind, double span) {
        TideGauges t = new TideGauges();
        Due.due("gauge(0, " + kind + ", " + span + ")", t.gauge(0, kind, Due.d(span)), 1);
        return t;
    }

    /** PLACES 0, 1, 2 have a STEP of 2, a WRAP of 3, a LONG of 4; RACKS 0, 1, 2 are for STEP, WRAP, LONG. */
    private static TideGauges withAllKinds() {
        TideGauges t = new TideGauges();
        for (int kind = 0; kind < 3; kind++) {
            Due.due("gauge", t.gauge(kind, kind, Due.d(kind + 2)), 1);
            Due.due("rack", t.rack(kind, kind), 1);
        }
        return t;
    }

    private static void promise12Gauge() {
        for (int place = 0; place < 6; place++) {
            for (int kind = 0; kind < 3; kind++) {
                TideGauges t = new TideGauges();
                Due.due("gauge", t.gauge(place, kind, Due.d(1.5)), 1);
                Due.due("count(1)", t.count(1), 1);
                Due.due("its KIND", t.count(11 + place), kind);
                Due.due("another one in its PLACE", t.gauge(place, 2 - kind, Due.d(2.5)), 1);
                Due.due("count(1)", t.count(1), 1);
                Due.due("its KIND", t.count(11 + place), 2 - kind);
            }
        }
        TideGauges t = withGauge(Due.STEP, 2);
        Due.tells("read", t, t.read(0, Due.d(7), false), Due.d(6));
        Due.due("gauge of another SPAN", t.gauge(0, Due.STEP, Due.d(5)), 1);
        Due.tells("read", t, t.read(0, Due.d(7), false), Due.d(5));
        for (double span : new double[] {-1, Double.MIN_VALUE, -Double.MIN_VALUE, Double.MAX_VALUE}) {
            Due.due("gauge of SPAN " + span, t.gauge(0, Due.WRAP, Due.d(span)), 1);
        }
    }

    private static void promise12GaugeIsWrong() {
        TideGauges t = withGauge(Due.STEP, 2);
        for (int place : WRONG_PLACES) {
            Due.due("gauge(" + place + ")", t.gauge(place, 1, Due.d(3)), Due.BAD);
        }
        for (int kind : WRONG_KINDS) {
            Due.due("gauge of KIND " + kind, t.gauge(0, kind, Due.d(3)), Due.BAD);
        }
        for (double span : new double[] {0.0, -0.0, INF, -INF}) {
            for (int kind = 0; kind < 3; kind++) {
                Due.due("gauge of SPAN " + span, t.gauge(0, kind, Due.d(span)), Due.BAD);
            }
        }
        for (long span : NO_NUMBERS) {
            Due.due("gauge of no SPAN", t.gauge(0, 1, span), Due.BAD);
        }
        Due.due("count(1)", t.count(1), 1);
        Due.tells("read", t, t.read(0, Due.d(7), false), Due.d(6));
    }

    private static void readIs(int kind, double span, double v, double want) {
        TideGauges t = withGauge(kind, span);
        String call = "read of " + v + " by KIND " + kind + " of " + span;
        Due.tells(call, t, t.read(0, Due.d(v), false), Due.d(want));
        if (kind != Due.LONG) {
            Due.tells(call + " as a float", t, t.read(0, Due.d(v), true), Due.f((float) want));
        }
    }

    private static void promise13ReadOfAStep() {
        readIs(Due.STEP, 2.5, 12, 10);
        readIs(Due.STEP, 2.5, -12, -10);
        readIs(Due.STEP, -2.5, 12, 10);
        readIs(Due.STEP, -2.5, -12, -10);
        readIs(Due.STEP, 5, 3, 0.0);
        readIs(Due.STEP, 5, -3, 0.0);
        readIs(Due.STEP, 5, -0.0, 0.0);
        readIs(Due.STEP, 5, -10, -10);
        readIs(Due.STEP, 3, 1e16, 1e16);
        readIs(Due.STEP, 0.1, 0.35, 0.35 - 0.35 % 0.1);
        readIs(Due.STEP, 1, 16777217.5, 16777217);
        readIs(Due.STEP, 1, 1e300, 1e300);
        readIs(Due.STEP, Double.MIN_VALUE, Double.MAX_VALUE, Double.MAX_VALUE);
        readIs(Due.STEP, Double.MAX_VALUE, -1, 0.0);
    }

    private static void promise13ReadOfAWrap() {
        readIs(Due.WRAP, 2.5, 12, 2);
        readIs(Due.WRAP, 2.5, -12, 0.5);
        readIs(Due.WRAP, -2.5, 12, 2);
        readIs(Due.WRAP, -2.5, -12, 0.5);
        readIs(Due.WRAP, 5, 10, 0.0);
        readIs(Due.WRAP, 5, -10, 0.0);
        readIs(Due.WRAP, 5, 0.0, 0.0);
        readIs(Due.WRAP, 5, -0.0, -0.0);
        readIs(Due.WRAP, 5, -3, 2);
        // 1e16 less its REST (1) by 3 is rounded to 1e16 again: nothing is left of it.
        readIs(Due.WRAP, 3, 1e16, 0.0);
        readIs(Due.WRAP, 5, -Double.MIN_VALUE, 5);
        readIs(Due.WRAP, 0.1, 0.35, 0.35 - (0.35 - 0.35 % 0.1));
        readIs(Due.WRAP, Double.MAX_VALUE, -1, Double.MAX_VALUE);
    }

    private static void readOfALongIs(double v, double want, float wantAsFloat) {
        TideGauges t = withGauge(Due.LONG, 3);
        Due.tells("read of " + v + " by a LONG", t, t.read(0, Due.d(v), false), Due.d(want));
        Due.tells("read of " + v + " by a LONG as a float", t, t.read(0, Due.d(v), true), Due.f(wantAsFloat));
    }

    private static void promise13ReadOfALong() {
        readOfALongIs(7.9, 7, 7);
        readOfALongIs(-7.9, -7, -7);
        readOfALongIs(-0.5, 0.0, 0.0f);
        readOfALongIs(-0.0, 0.0, 0.0f);
        readOfALongIs(INF, 9.223372036854775807E18, 9.223372036854775807E18f);
        readOfALongIs(-INF, -9.223372036854775808E18, -9.223372036854775808E18f);
        readOfALongIs(1e300, 9.223372036854775807E18, 9.223372036854775807E18f);
        readOfALongIs(-1e300, -9.223372036854775808E18, -9.223372036854775808E18f);
        // As a float it is 8.0 ahead of the cut, as a double it is cut to 7.
        readOfALongIs(7.99999999, 7, 8);
        readOfALongIs(16777217.9, 16777217, 16777218);
        readOfALongIs(0.99999999, 0.0, 1.0f);
        readOfALongIs(9007199254740993.0, 9007199254740992.0, 9007199254740992f);
    }

    private static void promise13ReadIsWrong() {
        TideGauges t = withAllKinds();
        t.read(0, Due.d(7), false);
        for (int place : WRONG_PLACES) {
            Due.refuses("read(" + place + ")", t, Due.d(6), t.read(place, Due.d(7), false), Due.BAD);
        }
        for (long bits : NO_NUMBERS) {
            for (boolean single : new boolean[] {false, true}) {
                Due.refuses("read of no number", t, Due.d(6), t.read(0, bits, single), Due.BAD);
                Due.refuses("read of no number, LONG", t, Due.d(6), t.read(2, bits, single), Due.BAD);
                Due.refuses("read of no number, ahead of MISSING", t, Due.d(6), t.read(5, bits, single), Due.BAD);
            }
        }
        for (double v : new double[] {INF, -INF}) {
            for (boolean single : new boolean[] {false, true}) {
                Due.refuses("read of ENDLESS, STEP", t, Due.d(6), t.read(0, Due.d(v), single), Due.NO_NUMBER);
                Due.refuses("read of ENDLESS, WRAP", t, Due.d(6), t.read(1, Due.d(v), single), Due.NO_NUMBER);
                Due.refuses("read, MISSING", t, Due.d(6), t.read(5, Due.d(v), single), Due.MISSING);
            }
        }
        Due.due("read of what is no float alone", t.read(0, 0x7FC00000L, true), 1);
        TideGauges u = withGauge(Due.STEP, 1);
        Due.tells("read beyond the floats", u, u.read(0, Due.d(-1e300), true), Due.f(-FINF));
    }

    private static void promise14Rack() {
        TideGauges t = withAllKinds();
        Due.due("count(2)", t.count(2), 3);
        Due.due("hang", t.hang(0, 2, 1), 1);
        Due.due("rack in place of an earlier one", t.rack(0, Due.STEP), 1);
        Due.due("count(2)", t.count(2), 3);
        for (int i = 0; i < 4; i++) {
            Due.due("take from a bare hook", t.take(0, i, Due.LONG, 5), 0);
        }
        Due.due("hang, STORE", t.hang(0, 0, 2), Due.STORE);
        Due.due("rack for another KIND", t.rack(0, Due.LONG), 1);
        Due.due("hang", t.hang(0, 0, 2), 1);
        Due.due("hang, STORE", t.hang(0, 0, 0), Due.STORE);
    }

    private static void promise14RackIsWrong() {
        TideGauges t = withAllKinds();
        t.hang(0, 0, 0);
        for (int rack : WRONG_RACKS) {
            Due.due("rack(" + rack + ")", t.rack(rack, 0), Due.BAD);
        }
        for (int kind : WRONG_KINDS) {
            Due.due("rack of KIND " + kind, t.rack(0, kind), Due.BAD);
        }
        Due.due("take of what hung", t.take(0, 0, Due.STEP, 5), 1);
        TideGauges u = new TideGauges();
        u.rack(3, 0);
        u.rack(0, 3);
        Due.due("count(2)", u.count(2), 0);
    }

    private static void promise15Hang() {
        for (int rack = 0; rack < 3; rack++) {
            for (int place = 0; place < 3; place++) {
                boolean fits = rack == place || rack == Due.STEP && place == Due.WRAP;
                for (int i = 0; i < 4; i++) {
                    TideGauges t = withAllKinds();
                    Due.due("hang(" + rack + ", " + i + ", " + place + ")", t.hang(rack, i, place),
                        fits ? 1 : Due.STORE);
                    Due.due("take of it", t.take(rack, i, place, 5), fits ? 1 : 0);
                    Due.due("its KIND", t.count(16), fits ? place : Due.BAD);
                }
            }
        }
        TideGauges t = withAllKinds();
        t.hang(0, 1, 0);
        Due.due("hang, STORE", t.hang(0, 1, 2), Due.STORE);
        Due.due("the hook after it", t.take(0, 1, Due.STEP, 4), 1);
        t.gauge(0, Due.STEP, Due.d(100));
        t.take(0, 1, Due.STEP, 4);
        Due.tells("read of what hung before", t, t.read(4, Due.d(7), false), Due.d(6));
    }

    private static void promise15HangOfNone() {
        TideGauges t = withAllKinds();
        for (int rack = 0; rack < 3; rack++) {
            t.hang(rack, 3, rack);
            Due.due("hang of none", t.hang(rack, 3, 5), 1);
            Due.due("take of none", t.take(rack, 3, rack, 4), 0);
        }
    }

    private static void promise15HangIsWrong() {
        TideGauges t = withAllKinds();
        for (int rack : WRONG_RACKS) {
            Due.due("hang(" + rack + ")", t.hang(rack, 0, 0), Due.BAD);
        }
        for (int place : WRONG_PLACES) {
            Due.due("hang of PLACE " + place, t.hang(0, 0, place), Due.BAD);
            Due.due("hang of PLACE " + place + ", ahead of OUTSIDE", t.hang(0, 9, place), Due.BAD);
        }
        for (int i : WRONG_HOOKS) {
            Due.due("hang on hook " + i, t.hang(0, i, 0), Due.OUTSIDE);
            Due.due("hang on hook " + i + ", ahead of STORE", t.hang(0, i, 2), Due.OUTSIDE);
        }
        TideGauges u = new TideGauges();
        Due.due("hang, BAD ahead of MISSING", u.hang(0, 9, 6), Due.BAD);
        Due.due("hang, MISSING ahead of OUTSIDE", u.hang(0, 9, 0), Due.MISSING);
        Due.due("hang, MISSING", u.hang(0, 0, 0), Due.MISSING);
    }

    private static void promise16Take() {
        for (int hung = 0; hung < 3; hung++) {
            for (int kind = 0; kind < 3; kind++) {
                boolean fits = kind == hung || kind == Due.STEP && hung == Due.WRAP;
                TideGauges t = withAllKinds();
                t.hang(hung, 2, hung);
                Due.due("take of " + hung + " as " + kind, t.take(hung, 2, kind, 4), fits ? 1 : Due.CAST);
                Due.due("its KIND", t.count(15), fits ? hung : Due.BAD);
                Due.due("count(1)", t.count(1), fits ? 4 : 3);
                Due.due("what hangs stays", t.take(hung, 2, hung, 3), 1);
            }
        }
        TideGauges t = withAllKinds();
        t.hang(0, 0, 1);
        Due.due("take of a WRAP from a RACK for STEPS", t.take(0, 0, Due.WRAP, 0), 1);
        Due.tells("read of it", t, t.read(0, Due.d(-1), false), Due.d(2));
        Due.due("take as a STEP", t.take(0, 0, Due.STEP, 2), 1);
        Due.due("it is a WRAP still", t.count(13), Due.WRAP);
        t.hang(0, 0, 5);
        t.rack(0, Due.LONG);
        Due.tells("read of what hung once", t, t.read(2, Due.d(-1), false), Due.d(2));
    }

    private static void promise16TakeOfNone() {
        TideGauges t = withAllKinds();
        for (int kind = 0; kind < 3; kind++) {
            Due.due("take of none", t.take(0, 0, kind, kind), 0);
            Due.due("count(1)", t.count(1), 2 - kind);
            Due.due("read of none", t.read(kind, 0, false), Due.MISSING);
        }
    }

    private static void promise16TakeIsWrong() {
        TideGauges t = withAllKinds();
        t.hang(0, 0, 0);
        for (int rack : WRONG_RACKS) {
            Due.due("take(" + rack + ")", t.take(rack, 0, 0, 0), Due.BAD);
        }
        for (int kind : WRONG_KINDS) {
            Due.due("take as " + kind, t.take(0, 0, kind, 1), Due.BAD);
            Due.due("take as " + kind + ", ahead of OUTSIDE", t.take(0, 9, kind, 1), Due.BAD);
        }
        for (int place : WRONG_PLACES) {
            Due.due("take to PLACE " + place, t.take(0, 0, 0, place), Due.BAD);
        }
        for (int i : WRONG_HOOKS) {
            Due.due("take from hook " + i, t.take(0, i, 0, 1), Due.OUTSIDE);
        }
        Due.due("take, CAST", t.take(0, 0, Due.LONG, 1), Due.CAST);
        Due.due("the PLACE after it", t.count(12), Due.WRAP);
        TideGauges u = new TideGauges();
        Due.due("take, BAD ahead of MISSING", u.take(0, 0, 3, 0), Due.BAD);
        Due.due("take, MISSING ahead of OUTSIDE", u.take(0, 9, 0, 0), Due.MISSING);
        Due.due("take, MISSING", u.take(2, 0, 0, 0), Due.MISSING);
    }

    private static void promise17Told() {
        TideGauges t = new TideGauges();
        Due.due("told() at first", t.told(), 0);
        t.row(0, true, 2);
        t.put(0, true, 0, Due.d(-2.5));
        t.gauge(0, Due.STEP, Due.d(2));
        t.rack(0, Due.STEP);
        t.hang(0, 0, 0);
        t.take(0, 0, Due.STEP, 1);
        t.share(0, 1);
        t.count(0);
        Due.due("told() after calls that tell nothing", t.told(), 0);
        Due.tells("get", t, t.get(0, true, 0), Due.d(-2.5));
        Due.tells("turn", t, t.turn(0, true, 0, 3), -2);
        Due.tells("turn", t, t.turn(0, true, 0, 5), Due.f(-2.5f));
        Due.tells("sum", t, t.sum(0, true, 0, 2), Due.d(-2.5));
        Due.tells("rest", t, t.rest(0, true, 1, 0), Due.d(0.0));
        Due.tells("read", t, t.read(0, Due.d(-5), false), Due.d(-4));
        Due.tells("read as a float", t, t.read(0, Due.d(-5), true), Due.f(-4));
        Due.tells("tide", t, t.tide(0, true, 1, 12), Due.d(1.5));
        Due.due("clear", t.clear(0), 1);
        Due.due("told() after clear", t.told(), Due.d(1.5));
        Due.due("told() again", t.told(), Due.d(1.5));
    }

    private static void promise18Count() {
        TideGauges t = new TideGauges();
        for (int place = 0; place < 8; place++) {
            t.row(place, place % 2 == 0, place + 5);
            Due.due("count(0)", t.count(0), place + 1);
            Due.due("count of ITEMS", t.count(3 + place), place + 5);
        }
        for (int place = 0; place < 6; place++) {
            t.gauge(place, place % 3, Due.d(1));
            Due.due("count(1)", t.count(1), place + 1);
            Due.due("count of a KIND", t.count(11 + place), place % 3);
        }
        for (int rack = 0; rack < 3; rack++) {
            t.rack(rack, rack);
            Due.due("count(2)", t.count(2), rack + 1);
        }
        t.row(4, true, 0);
        Due.due("count of no ITEMS", t.count(7), 0);
        t.share(7, 0);
        Due.due("count of shared ITEMS", t.count(3), 12);
        t.clear(7);
        Due.due("count(0)", t.count(0), 7);
        Due.due("count without a ROW", t.count(10), Due.BAD);
        t.take(0, 0, 0, 5);
        Due.due("count(1)", t.count(1), 5);
        Due.due("count without a GAUGE", t.count(16), Due.BAD);
    }

    private static void promise18CountIsWrong() {
        TideGauges t = new TideGauges();
        for (int place = 0; place < 8; place++) {
            t.row(place, true, 1);
        }
        for (int place = 0; place < 6; place++) {
            t.gauge(place, 0, Due.d(1));
        }
        for (int what : new int[] {-1, -2, 17, 18, 19, Integer.MIN_VALUE, Integer.MIN_VALUE + 2, Integer.MIN_VALUE + 3,
            Integer.MIN_VALUE + 11, Integer.MAX_VALUE}) {
            Due.due("count(" + what + ")", t.count(what), Due.BAD);
        }
    }
}
