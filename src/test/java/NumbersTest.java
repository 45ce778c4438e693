/** Promises 7 to 11: rest, turn, tide, sum, round. */
public final class NumbersTest {
    private static final double INF = Double.POSITIVE_INFINITY;
    private static final float FINF = Float.POSITIVE_INFINITY;
    private static final int[] WRONG_PLACES = {-1, 8, Integer.MIN_VALUE, Integer.MAX_VALUE};
    private static final int[] WRONG_OF_TWO = {-1, 2, Integer.MIN_VALUE, Integer.MAX_VALUE};

    public static void main(String[] args) {
        promise7Rest();
        promise7RestOfFloats();
        promise7RestIsNoNumber();
        promise7RestIsWrong();
        promise8Turn();
        promise8TurnOfFloats();
        promise8TurnIntoAFloat();
        promise8TurnIsWrong();
        promise9Tide();
        promise9TideOfFloats();
        promise9TideOfItemZero();
        promise9TideOfEndless();
        promise9TideIsWrong();
        promise10Sum();
        promise10SumIsRounded();
        promise10SumOfFloats();
        promise10SumIsNoNumber();
        promise10SumIsWrong();
        promise11Round();
        promise11RoundTellsNothing();
        Due.end();
    }

    private static void restIs(double x, double y, double want) {
        TideGauges t = Due.wideRow(x, y);
        Due.tells("rest of " + x + " by " + y, t, t.rest(0, true, 0, 1), Due.d(want));
        Due.tells("ITEM 0 after it", t, t.get(0, true, 0), Due.d(x));
        Due.tells("ITEM 1 after it", t, t.get(0, true, 1), Due.d(y));
    }

    private static void restOfFloatsIs(float x, float y, float want) {
        TideGauges t = Due.narrowRow(x, y);
        Due.tells("rest of " + x + "f by " + y + "f", t, t.rest(0, false, 0, 1), Due.f(want));
    }

    private static void promise7Rest() {
        restIs(12.5, 5, 2.5);
        restIs(-12.5, 5, -2.5);
        restIs(12.5, -5, 2.5);
        restIs(-12.5, -5, -2.5);
        restIs(10, 5, 0.0);
        restIs(-10, 5, -0.0);
        restIs(10, -5, 0.0);
        restIs(3, 5, 3);
        restIs(5, 5, 0.0);
        restIs(0.0, 5, 0.0);
        restIs(-0.0, 5, -0.0);
        restIs(7, INF, 7);
        restIs(-7, -INF, -7);
        restIs(-0.0, INF, -0.0);
        restIs(Double.MAX_VALUE, INF, Double.MAX_VALUE);
        restIs(0.3, 0.1, 0.09999999999999998);
        restIs(1e300, 7, 1.0);
        restIs(1e16, 3, 1.0);
        restIs(Double.MAX_VALUE, Double.MIN_VALUE, 0.0);
        restIs(Double.MAX_VALUE, 3 * Double.MIN_VALUE, Double.MAX_VALUE % (3 * Double.MIN_VALUE));
        restIs(7 * Double.MIN_VALUE, 4 * Double.MIN_VALUE, 3 * Double.MIN_VALUE);
        restIs(-7 * Double.MIN_VALUE, 7 * Double.MIN_VALUE, -0.0);
        restIs(Double.MIN_NORMAL, Double.MIN_NORMAL - Double.MIN_VALUE, Double.MIN_VALUE);
        restIs(Double.MAX_VALUE, Math.nextDown(Double.MAX_VALUE), 1.9958403095347198E292);
    }

    private static void promise7RestOfFloats() {
        restOfFloatsIs(12.5f, 5, 2.5f);
        restOfFloatsIs(-12.5f, 5, -2.5f);
        restOfFloatsIs(-10, -5, -0.0f);
        restOfFloatsIs(10, -5, 0.0f);
        restOfFloatsIs(0.3f, 0.1f, 0.3f % 0.1f);
        restOfFloatsIs(Float.MAX_VALUE, 3, Float.MAX_VALUE % 3);
        restOfFloatsIs(Float.MAX_VALUE, 3 * Float.MIN_VALUE, Float.MAX_VALUE % (3 * Float.MIN_VALUE));
        restOfFloatsIs(7 * Float.MIN_VALUE, 4 * Float.MIN_VALUE, 3 * Float.MIN_VALUE);
        restOfFloatsIs(-7, FINF, -7);
        restOfFloatsIs(-0.0f, -FINF, -0.0f);
    }

    private static void promise7RestIsNoNumber() {
        TideGauges t = Due.wideRow(5, 0.0, -0.0, INF, -INF);
        t.get(0, true, 0);
        int[][] pairs = {{0, 1}, {0, 2}, {1, 1}, {2, 2}, {3, 0}, {4, 0}, {3, 3}, {3, 4}, {4, 1}};
        for (int[] pair : pairs) {
            Due.refuses("rest of " + pair[0] + " by " + pair[1], t, Due.d(5),
                t.rest(0, true, pair[0], pair[1]), Due.NO_NUMBER);
        }
        TideGauges u = Due.narrowRow(5, 0.0f, -0.0f, FINF, -FINF);
        u.get(0, false, 0);
        for (int[] pair : pairs) {
            Due.refuses("rest of float " + pair[0] + " by " + pair[1], u, Due.f(5),
                u.rest(0, false, pair[0], pair[1]), Due.NO_NUMBER);
        }
    }

    private static void promise7RestIsWrong() {
        TideGauges t = Due.wideRow(5, 0);
        t.get(0, true, 0);
        for (int place : WRONG_PLACES) {
            Due.refuses("rest(" + place + ")", t, Due.d(5), t.rest(place, true, 0, 0), Due.BAD);
        }
        Due.refuses("rest, CAST", t, Due.d(5), t.rest(0, false, 9, 9), Due.CAST);
        Due.refuses("rest, MISSING", t, Due.d(5), t.rest(1, true, 9, 9), Due.MISSING);
        for (int i : WRONG_OF_TWO) {
            Due.refuses("rest of ITEM " + i, t, Due.d(5), t.rest(0, true, i, 1), Due.OUTSIDE);
            Due.refuses("rest by ITEM " + i, t, Due.d(5), t.rest(0, true, 0, i), Due.OUTSIDE);
        }
        Due.refuses("rest, NO NUMBER", t, Due.d(5), t.rest(0, true, 0, 1), Due.NO_NUMBER);
    }

    private static void turnIs(double x, int to, long want) {
        TideGauges t = Due.wideRow(x);
        Due.tells("turn of " + x + " into " + to, t, t.turn(0, true, 0, to), want);
        Due.tells("ITEM 0 after it", t, t.get(0, true, 0), Due.d(x));
    }

    private static void turnOfFloatIs(float x, int to, long want) {
        TideGauges t = Due.narrowRow(x);
        Due.tells("turn of " + x + "f into " + to, t, t.turn(0, false, 0, to), want);
    }

    private static void promise8Turn() {
        turnIs(200.9, 0, -56);
        turnIs(-129.5, 0, 127);
        turnIs(4294967296.0 + 5, 0, -1);
        turnIs(-INF, 0, 0);
        turnIs(40000.9, 1, -25536);
        turnIs(1e10, 1, -1);
        turnIs(-1e10, 1, 0);
        turnIs(-1.5, 2, 65535);
        turnIs(65536.5, 2, 0);
        turnIs(1e10, 2, 65535);
        turnIs(-1e10, 2, 0);
        turnIs(2.99, 3, 2);
        turnIs(-2.99, 3, -2);
        turnIs(-0.0, 3, 0);
        turnIs(Double.MIN_VALUE, 3, 0);
        turnIs(2147483646.9, 3, 2147483646);
        turnIs(2147483648.0, 3, Integer.MAX_VALUE);
        turnIs(-2147483648.9, 3, Integer.MIN_VALUE);
        turnIs(-2147483649.0, 3, Integer.MIN_VALUE);
        turnIs(INF, 3, Integer.MAX_VALUE);
        turnIs(-INF, 3, Integer.MIN_VALUE);
        turnIs(-2147483649.5, 4, -2147483649L);
        turnIs(9007199254740993e3, 4, 9007199254740993024L);
        turnIs(9223372036854774784.0, 4, 9223372036854774784L);
        turnIs(9223372036854775808.0, 4, Long.MAX_VALUE);
        turnIs(-9223372036854775808.0, 4, Long.MIN_VALUE);
        turnIs(-9223372036854777856.0, 4, Long.MIN_VALUE);
        turnIs(-INF, 4, Long.MIN_VALUE);
        turnIs(0.999, 4, 0);
        turnIs(0x1p-12, 4, 0);
        turnIs(-0x1.8p-11, 3, 0);
        turnIs(-Double.MAX_VALUE, 4, Long.MIN_VALUE);
        turnIs(-0.0, 6, Due.d(-0.0));
        turnIs(0.1, 6, Due.d(0.1));
    }

    private static void promise8TurnOfFloats() {
        turnOfFloatIs(200.9f, 0, -56);
        turnOfFloatIs(40000.9f, 1, -25536);
        turnOfFloatIs(-1.5f, 2, 65535);
        turnOfFloatIs(-2.99f, 3, -2);
        turnOfFloatIs(2147483648f, 3, Integer.MAX_VALUE);
        turnOfFloatIs(2147483520f, 3, 2147483520);
        turnOfFloatIs(-FINF, 3, Integer.MIN_VALUE);
        turnOfFloatIs(9223371487098961920f, 4, 9223371487098961920L);
        turnOfFloatIs(FINF, 4, Long.MAX_VALUE);
        turnOfFloatIs(-FINF, 4, Long.MIN_VALUE);
        turnOfFloatIs(Float.MIN_VALUE, 4, 0);
        turnOfFloatIs(Float.MIN_VALUE, 5, 1);
        turnOfFloatIs(-0.0f, 5, Integer.MIN_VALUE);
        turnOfFloatIs(-FINF, 5, Due.f(-FINF));
        turnOfFloatIs(0.1f, 6, Due.d(0.10000000149011612));
        turnOfFloatIs(-0.0f, 6, Due.d(-0.0));
        turnOfFloatIs(Float.MIN_VALUE, 6, Due.d(1.401298464324817E-45));
        turnOfFloatIs(-FINF, 6, Due.d(-INF));
        turnOfFloatIs(Float.MAX_VALUE, 6, Due.d(3.4028234663852886E38));
    }

    private static void promise8TurnIntoAFloat() {
        turnIs(0.1, 5, Due.f(0.1f));
        turnIs(-0.0, 5, Due.f(-0.0f));
        turnIs(16777217, 5, Due.f(16777216f));
        turnIs(16777219, 5, Due.f(16777220f));
        turnIs(-16777217.000001, 5, Due.f(-16777218f));
        turnIs(Double.MAX_VALUE, 5, Due.f(FINF));
        turnIs(-Double.MAX_VALUE, 5, Due.f(-FINF));
        turnIs(-INF, 5, Due.f(-FINF));
        turnIs(3.4028235677973366E38, 5, Due.f(FINF));
        turnIs(3.4028235677973362E38, 5, Due.f(Float.MAX_VALUE));
        turnIs(Double.MIN_VALUE, 5, 0);
        turnIs(-Double.MIN_VALUE, 5, Due.f(-0.0f));
        turnIs(0x1p-150, 5, 0);
        turnIs(0x1p-161, 5, 0);
        turnIs(-0x1.8p-162, 5, Due.f(-0.0f));
        turnIs(Math.nextUp(0x1p-150), 5, 1);
        turnIs(0x1.8p-149, 5, 2);
        turnIs(Math.nextDown(0x1p-126), 5, Due.f(Float.MIN_NORMAL));
    }

    private static void promise8TurnIsWrong() {
        TideGauges t = Due.wideRow(5, 6);
        t.get(0, true, 0);
        for (int place : WRONG_PLACES) {
            Due.refuses("turn(" + place + ")", t, Due.d(5), t.turn(place, true, 0, 0), Due.BAD);
        }
        for (int to : new int[] {-1, 7, Integer.MIN_VALUE, Integer.MAX_VALUE}) {
            Due.refuses("turn into " + to, t, Due.d(5), t.turn(0, true, 0, to), Due.BAD);
            Due.refuses("turn into " + to + ", ahead of CAST", t, Due.d(5), t.turn(0, false, 0, to), Due.BAD);
            Due.refuses("turn into " + to + ", ahead of MISSING", t, Due.d(5), t.turn(1, true, 0, to), Due.BAD);
        }
        Due.refuses("turn, CAST", t, Due.d(5), t.turn(0, false, 9, 0), Due.CAST);
        Due.refuses("turn, MISSING", t, Due.d(5), t.turn(1, true, 9, 0), Due.MISSING);
        for (int i : WRONG_OF_TWO) {
            Due.refuses("turn of ITEM " + i, t, Due.d(5), t.turn(0, true, i, 0), Due.OUTSIDE);
        }
    }

    private static void tideIs(double period, double x, int eighths, double want) {
        TideGauges t = Due.wideRow(period, x);
        Due.tells("tide of " + x + " by " + eighths, t, t.tide(0, true, 1, eighths), Due.d(want));
        Due.tells("ITEM 1 after it", t, t.get(0, true, 1), Due.d(want));
        Due.tells("ITEM 0 after it", t, t.get(0, true, 0), Due.d(period));
    }

    private static void tideOfFloatIs(float period, float x, int eighths, float want) {
        TideGauges t = Due.narrowRow(period, x);
        Due.tells("tide of " + x + "f by " + eighths, t, t.tide(0, false, 1, eighths), Due.f(want));
        Due.tells("ITEM 1 after it", t, t.get(0, false, 1), Due.f(want));
    }

    private static void promise9Tide() {
        tideIs(12.5, 1, 100, 1);
        tideIs(12.5, 1, 99, 0.875);
        tideIs(12.5, -1, -100, -1);
        tideIs(-12.5, 12, 8, 0.5);
        tideIs(0.0, 1, 100, 13.5);
        tideIs(-0.0, 1, 100, 13.5);
        tideIs(12.5, -0.0, 0, 0.0);
        tideIs(0.0, -0.0, 0, 0.0);
        tideIs(12.5, 13, -104, 0.0);
        tideIs(INF, 1, -17, -1.125);
        tideIs(0.0, 0.1, 1, 0.225);
        tideIs(0.0, 0, Integer.MIN_VALUE, -268435456);
        tideIs(0.0, 0, Integer.MAX_VALUE, 268435455.875);
        tideIs(0.0, 1e16, 8, 1e16);
        tideIs(0.0, 1e16, 24, 1.0000000000000004E16);
        tideIs(3, -2, 3, -1.625);
    }

    private static void promise9TideOfFloats() {
        tideOfFloatIs(12.5f, 1, 100, 1);
        tideOfFloatIs(-12.5f, -1, -99, -0.875f);
        tideOfFloatIs(0.0f, 0.1f, 1, 0.225f);
        tideOfFloatIs(0.0f, 0, Integer.MAX_VALUE, 268435456f);
        tideOfFloatIs(0.0f, 0, 16777217, 2097152f);
        // The number of eighths becomes a float first: 16777217 is 16777216 there.
        tideOfFloatIs(0.0f, -2097152f, 16777217, 0.0f);
        tideOfFloatIs(0.0f, 16777216f, 8, 16777216f);
        tideOfFloatIs(0.0f, 16777216f, 24, 16777220f);
        tideOfFloatIs(FINF, 1, -17, -1.125f);
    }

    private static void promise9TideOfItemZero() {
        TideGauges t = Due.wideRow(12.5);
        Due.tells("tide of ITEM 0", t, t.tide(0, true, 0, 8), Due.d(1));
        Due.tells("tide of ITEM 0", t, t.tide(0, true, 0, -8), Due.d(0.0));
        Due.tells("tide of ITEM 0", t, t.tide(0, true, 0, 20), Due.d(2.5));
        TideGauges u = Due.narrowRow(12.5f);
        Due.tells("tide of float ITEM 0", u, u.tide(0, false, 0, -300), Due.f(-0.0f));
        Due.tells("tide of float ITEM 0", u, u.tide(0, false, 0, 7), Due.f(0.875f));
    }

    private static void promise9TideOfEndless() {
        tideIs(12.5, INF, -100, INF);
        tideIs(0.0, -INF, 100, -INF);
        tideIs(-INF, INF, 100, INF);
        tideOfFloatIs(12.5f, -FINF, 100, -FINF);
        TideGauges t = Due.wideRow(-INF);
        Due.tells("tide of ENDLESS ITEM 0", t, t.tide(0, true, 0, 8), Due.d(-INF));
        tideOfFloatIs(3, Float.MAX_VALUE, Integer.MAX_VALUE, Float.MAX_VALUE % 3);
    }

    private static void promise9TideIsWrong() {
        TideGauges t = Due.wideRow(5, 6);
        t.get(0, true, 0);
        for (int place : WRONG_PLACES) {
            Due.refuses("tide(" + place + ")", t, Due.d(5), t.tide(place, true, 0, 1), Due.BAD);
        }
        Due.refuses("tide, CAST", t, Due.d(5), t.tide(0, false, 9, 1), Due.CAST);
        Due.refuses("tide, MISSING", t, Due.d(5), t.tide(1, true, 9, 1), Due.MISSING);
        for (int i : WRONG_OF_TWO) {
            Due.refuses("tide of ITEM " + i, t, Due.d(5), t.tide(0, true, i, 1), Due.OUTSIDE);
        }
        t.row(2, true, 0);
        Due.refuses("tide without ITEMS", t, Due.d(5), t.tide(2, true, 0, 1), Due.OUTSIDE);
        Due.tells("ITEM 1", t, t.get(0, true, 1), Due.d(6));
    }

    private static void promise10Sum() {
        TideGauges t = Due.wideRow(0.1, 0.2, 0.3, 1e16, 1, -1e16, -0.0, Double.MAX_VALUE, Double.MAX_VALUE, -INF);
        Due.tells("sum of none", t, t.sum(0, true, 0, 0), 0);
        Due.tells("sum of one", t, t.sum(0, true, 1, 1), Due.d(0.2));
        Due.tells("sum of three", t, t.sum(0, true, 0, 3), Due.d(0.6000000000000001));
        Due.tells("sum in order", t, t.sum(0, true, 3, 3), Due.d(0.0));
        Due.tells("sum of -0.0", t, t.sum(0, true, 6, 1), Due.d(0.0));
        Due.tells("sum beyond the greatest", t, t.sum(0, true, 7, 2), Due.d(INF));
        Due.tells("sum with an ENDLESS one", t, t.sum(0, true, 8, 2), Due.d(-INF));
        Due.tells("sum of none from far away", t, t.sum(0, true, Integer.MAX_VALUE, 0), 0);
        t.get(0, true, 0);
        Due.tells("sum of none from below", t, t.sum(0, true, -5, 0), 0);
        Due.tells("ITEM 0 after it", t, t.get(0, true, 0), Due.d(0.1));
    }

    private static void sumOfTwoIs(double x, double y, double want) {
        TideGauges t = Due.wideRow(x, y);
        Due.tells("sum of " + x + " and " + y, t, t.sum(0, true, 0, 2), Due.d(want));
    }

    private static void promise10SumIsRounded() {
        sumOfTwoIs(1, 0x1p-53, 1);
        sumOfTwoIs(1, Math.nextUp(0x1p-53), Math.nextUp(1.0));
        sumOfTwoIs(Math.nextUp(1.0), 0x1p-53, 1 + 0x1p-51);
        sumOfTwoIs(1, -0x1p-54, 1);
        sumOfTwoIs(1, -Math.nextUp(0x1p-54), Math.nextDown(1.0));
        sumOfTwoIs(-1, Math.nextUp(0x1p-54), -Math.nextDown(1.0));
        sumOfTwoIs(1, 0x1p-63, 1);
        sumOfTwoIs(1, -0x1p-64, 1);
        sumOfTwoIs(-1, 0x1.8p-65, -1);
        sumOfTwoIs(Double.MAX_VALUE, Double.MIN_VALUE, Double.MAX_VALUE);
        sumOfTwoIs(1, -Math.nextDown(1.0), 0x1p-53);
        sumOfTwoIs(-1.5, 1.5, 0.0);
        sumOfTwoIs(Double.MIN_NORMAL, -Double.MIN_VALUE, Double.MIN_NORMAL - Double.MIN_VALUE);
        sumOfTwoIs(Double.MAX_VALUE, 0x1p970, INF);
        sumOfTwoIs(Double.MAX_VALUE, Math.nextDown(0x1p970), Double.MAX_VALUE);
    }

    private static void promise10SumOfFloats() {
        TideGauges t = Due.narrowRow(0.1f, 0.2f, 0.3f, 16777216f, 1, 1, -16777216f, Float.MAX_VALUE, 2e31f, FINF);
        Due.tells("sum of three floats", t, t.sum(0, false, 0, 3), Due.f(0.1f + 0.2f + 0.3f));
        Due.tells("sum rounded to floats each time", t, t.sum(0, false, 3, 4), Due.f(0.0f));
        Due.tells("sum beyond the greatest", t, t.sum(0, false, 7, 2), Due.f(FINF));
        Due.tells("sum of like ENDLESS ones", t, t.sum(0, false, 7, 3), Due.f(FINF));
        Due.tells("sum of none", t, t.sum(0, false, 0, 0), 0);
    }

    private static void promise10SumIsNoNumber() {
        TideGauges t = Due.wideRow(1, INF, -INF, 2, -INF, Double.MAX_VALUE, Double.MAX_VALUE, -INF);
        t.get(0, true, 0);
        Due.refuses("sum of unlike ENDLESS ones", t, Due.d(1), t.sum(0, true, 0, 3), Due.NO_NUMBER);
        Due.refuses("sum, NO NUMBER ahead of OUTSIDE", t, Due.d(1), t.sum(0, true, 1, 100), Due.NO_NUMBER);
        Due.refuses("sum grown ENDLESS", t, Due.d(1), t.sum(0, true, 5, 4), Due.NO_NUMBER);
        Due.refuses("sum, OUTSIDE first", t, Due.d(1), t.sum(0, true, 6, 3), Due.OUTSIDE);
        Due.tells("sum of like ENDLESS ones", t, t.sum(0, true, 2, 3), Due.d(-INF));
        TideGauges u = Due.narrowRow(-FINF, 1, FINF);
        Due.refuses("sum of unlike floats", u, 0, u.sum(0, false, 0, 4), Due.NO_NUMBER);
        Due.refuses("sum, OUTSIDE", u, 0, u.sum(0, false, 1, 3), Due.OUTSIDE);
    }

    private static void promise10SumIsWrong() {
        TideGauges t = Due.wideRow(5, 6);
        t.get(0, true, 0);
        for (int place : WRONG_PLACES) {
            Due.refuses("sum(" + place + ")", t, Due.d(5), t.sum(place, true, 0, 1), Due.BAD);
        }
        for (int n : new int[] {-1, Integer.MIN_VALUE}) {
            Due.refuses("sum of " + n, t, Due.d(5), t.sum(0, true, 0, n), Due.BAD);
            Due.refuses("sum of " + n + ", ahead of CAST", t, Due.d(5), t.sum(0, false, 0, n), Due.BAD);
            Due.refuses("sum of " + n + ", ahead of MISSING", t, Due.d(5), t.sum(1, true, 0, n), Due.BAD);
        }
        Due.refuses("sum, CAST", t, Due.d(5), t.sum(0, false, 9, 1), Due.CAST);
        Due.refuses("sum of none, CAST", t, Due.d(5), t.sum(0, false, 0, 0), Due.CAST);
        Due.refuses("sum, MISSING", t, Due.d(5), t.sum(1, true, 9, 1), Due.MISSING);
        Due.refuses("sum of none, MISSING", t, Due.d(5), t.sum(1, true, 0, 0), Due.MISSING);
        for (int from : WRONG_OF_TWO) {
            Due.refuses("sum from " + from, t, Due.d(5), t.sum(0, true, from, 1), Due.OUTSIDE);
            Due.refuses("sum from " + from, t, Due.d(5), t.sum(0, true, from, Integer.MAX_VALUE), Due.OUTSIDE);
        }
        Due.refuses("sum of too many", t, Due.d(5), t.sum(0, true, 0, 3), Due.OUTSIDE);
        Due.refuses("sum of too many", t, Due.d(5), t.sum(0, true, 0, Integer.MAX_VALUE), Due.OUTSIDE);
        Due.refuses("sum from below 0", t, Due.d(5), t.sum(0, true, -1, 2), Due.OUTSIDE);
    }

    private static void roundIs(long v, int how, long want) {
        Due.due("round(" + v + ", " + how + ")", new TideGauges().round(v, how), want);
    }

    private static void promise11Round() {
        long[] values = {0, 1, -1, 7, 16777216, 16777217, 16777219, -16777217, -16777219, 9007199254740993L,
            -9007199254740993L, 9007199254740995L, Long.MAX_VALUE, Long.MIN_VALUE, Long.MIN_VALUE + 1,
            Integer.MAX_VALUE, Integer.MIN_VALUE, 2147483520, 2147483584, 2147483585, -2147483777L};
        for (long v : values) {
            roundIs(v, 0, Due.f((float) v));
            roundIs(v, 1, (long) (float) v);
            roundIs(v, 2, Due.d((double) v));
            roundIs(v, 3, (long) (double) v);
            roundIs(v, 4, Due.f((float) (double) v));
            roundIs(v, 5, (int) (float) v);
            for (int how : new int[] {-1, 6, 7, Integer.MIN_VALUE, Integer.MAX_VALUE}) {
                roundIs(v, how, v);
            }
        }
        roundIs(16777217, 0, 0x4B800000);
        roundIs(16777217, 1, 16777216);
        roundIs(-16777219, 0, 0xFFFFFFFFCB800002L);
        roundIs(1, 2, 0x3FF0000000000000L);
        roundIs(9007199254740993L, 3, 9007199254740992L);
        roundIs(Long.MAX_VALUE, 1, Long.MAX_VALUE);
        roundIs(Long.MAX_VALUE, 5, Integer.MAX_VALUE);
        // Rounded twice, a number just above the middle between two floats is taken for the middle.
        long aboveMiddle = (1L << 60) + (1L << 36) + 1;
        roundIs(aboveMiddle, 1, (1L << 60) + (1L << 37));
        roundIs(aboveMiddle, 0, 0x5D800001);
        roundIs(aboveMiddle, 4, 0x5D800000);
    }

    private static void promise11RoundTellsNothing() {
        TideGauges t = Due.wideRow(5);
        t.get(0, true, 0);
        for (int how = -1; how < 7; how++) {
            t.round(99, how);
            Due.due("told() after round", t.told(), Due.d(5));
        }
    }
}
