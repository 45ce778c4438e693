/** Promises 7 to 11, sentence by sentence: what they say of the edges where a call is not refused. */
public final class NumberEdgesTest {
    private static final double INF = Double.POSITIVE_INFINITY;
    private static final float FINF = Float.POSITIVE_INFINITY;
    private static final int LEAST = Integer.MIN_VALUE;
    private static final int GREATEST = Integer.MAX_VALUE;

    public static void main(String[] args) {
        promise7RestByItself();
        promise7RestChangesNothingElse();
        promise8TurnToTheFirstAndTheLast();
        promise8TurnChangesNothingElse();
        promise9EighthsAsOneOfItsWidth();
        promise9TheSumIsRounded();
        promise9NoRestBy0();
        promise9NoRestOfEndless();
        promise9RestByEndless();
        promise9RestOfTheSum();
        promise9ItemZeroAsItWas();
        promise9ItIsTold();
        promise9TideOfASharedRow();
        promise10SumOfNone();
        promise10SumOfAll();
        promise10SumBeginsWith0();
        promise10SumIsInOrder();
        promise10SumIsInTheirWidth();
        promise10SumGrowsEndless();
        promise10SumOfLikeEndlessOnes();
        promise10SumChangesNothingElse();
        promise11RoundToAFloat();
        promise11RoundToADouble();
        promise11RoundByADoubleToAFloat();
        promise11RoundToAnInt();
        promise11RoundAnotherHow();
        promise11RoundChangesNothing();
        Due.end();
    }

    private static void promise7RestByItself() {
        Due.by("The REST of ITEM i by ITEM j is TOLD: 1.");
        TideGauges x = Due.wideRow(5, -5, Double.MIN_VALUE, -Double.MAX_VALUE);
        Due.tells("rest", x, x.rest(0, true, 0, 0), Due.d(0.0));
        Due.tells("rest", x, x.rest(0, true, 1, 1), Due.d(-0.0));
        Due.tells("rest", x, x.rest(0, true, 2, 2), Due.d(0.0));
        Due.tells("rest", x, x.rest(0, true, 3, 3), Due.d(-0.0));
        TideGauges y = Due.narrowRow(5, -5);
        Due.tells("rest of floats", y, y.rest(0, false, 0, 0), Due.f(0.0f));
        Due.tells("rest of floats", y, y.rest(0, false, 1, 1), Due.f(-0.0f));
        Due.tells("rest of i by j", y, y.rest(0, false, 1, 0), Due.f(-0.0f));
        TideGauges z = Due.wideRow(7, 4);
        Due.tells("rest of i by j", z, z.rest(0, true, 0, 1), Due.d(3));
        Due.tells("rest of j by i", z, z.rest(0, true, 1, 0), Due.d(4));
    }

    private static void promise7RestChangesNothingElse() {
        Due.by("The REST of ITEM i by ITEM j is TOLD: 1.");
        Twins.tellsOnly("rest", x -> x.rest(0, true, 1, 0));
        Twins.tellsOnly("rest by ENDLESS", x -> x.rest(0, true, 0, 3));
        Twins.tellsOnly("rest of floats", x -> x.rest(1, false, 4, 0));
    }

    private static void promise8TurnToTheFirstAndTheLast() {
        Due.by("ITEM i is TOLD, TURNED (to 0 .. 6): 1.");
        TideGauges x = Due.wideRow(200.75);
        TideGauges y = Due.narrowRow(200.75f);
        long[] due = {-56, 200, 200, 200, 200, Due.f(200.75f), Due.d(200.75)};
        for (int to = 0; to < 7; to++) {
            Due.tells("turn to " + to, x, x.turn(0, true, 0, to), due[to]);
            Due.tells("turn of a float to " + to, y, y.turn(0, false, 0, to), due[to]);
        }
        for (int to : new int[] {-1, 7}) {
            Due.refuses("turn to " + to, x, due[6], x.turn(0, true, 0, to), Due.BAD);
            Due.refuses("turn of a float to " + to, y, due[6], y.turn(0, false, 0, to), Due.BAD);
        }
    }

    private static void promise8TurnChangesNothingElse() {
        Due.by("ITEM i is TOLD, TURNED (to 0 .. 6): 1.");
        for (int kind = 0; kind < 7; kind++) {
            int to = kind;
            Twins.tellsOnly("turn to " + to, x -> x.turn(0, true, 1, to));
            Twins.tellsOnly("turn of a float to " + to, x -> x.turn(1, false, 4, to));
        }
    }

    private static void tideIs(double period, double v, int eighths, double want) {
        TideGauges x = Due.wideRow(period, v, 3);
        Due.tells("tide of " + v + " by " + eighths, x, x.tide(0, true, 1, eighths), Due.d(want));
        Due.tells("the ITEM", x, x.get(0, true, 1), Due.d(want));
        Due.tells("ITEM 0", x, x.get(0, true, 0), Due.d(period));
        Due.tells("another ITEM", x, x.get(0, true, 2), Due.d(3));
    }

    private static void tideOfFloatIs(float period, float v, int eighths, float want) {
        TideGauges x = Due.narrowRow(period, v, 3);
        Due.tells("tide of " + v + "f by " + eighths, x, x.tide(0, false, 1, eighths), Due.f(want));
        Due.tells("the ITEM", x, x.get(0, false, 1), Due.f(want));
        Due.tells("ITEM 0", x, x.get(0, false, 0), Due.f(period));
        Due.tells("another ITEM", x, x.get(0, false, 2), Due.f(3));
    }

    private static void promise9EighthsAsOneOfItsWidth() {
        Due.by("ITEM i gets a number of eighths more (that number as one of its width, by 8.0;");
        tideIs(0, 0, 1, 0.125);
        tideIs(0, 0, -1, -0.125);
        tideIs(0, 0, 0, 0.0);
        tideIs(0, -0.0, 0, 0.0);
        tideIs(0, 0, GREATEST, 268435455.875);
        tideIs(0, 0, LEAST, -268435456);
        tideIs(0, 0, 16777217, 2097152.125);
        tideOfFloatIs(0, 0, 1, 0.125f);
        tideOfFloatIs(0, 0, -1, -0.125f);
        tideOfFloatIs(0, -0.0f, 0, 0.0f);
        tideOfFloatIs(0, 0, GREATEST, 268435456);
        tideOfFloatIs(0, 0, LEAST, -268435456);
        // As floats these numbers of eighths are 16777216 and 16777220, even where the sum could tell them apart.
        tideOfFloatIs(0, -2097152, 16777217, 0.0f);
        tideOfFloatIs(0, -2097152, 16777219, 0.5f);
        tideOfFloatIs(0, -268435456, GREATEST, 0.0f);
        tideIs(0, -2097152, 16777217, 0.125);
    }

    private static void promise9TheSumIsRounded() {
        Due.by("the sum rounded to its width)");
        tideIs(0, 0x1p53, 8, 0x1p53);
        tideIs(0, 0x1p53, 9, 0x1p53 + 2);
        tideIs(0, 0x1p53 + 2, 8, 0x1p53 + 4);
        tideIs(0, 0.1, 1, 0.225);
        tideIs(0, Double.MIN_VALUE, 1, 0.125);
        tideIs(0, Double.MAX_VALUE, GREATEST, Double.MAX_VALUE);
        tideIs(0, -Double.MAX_VALUE, LEAST, -Double.MAX_VALUE);
        tideOfFloatIs(0, 16777216, 8, 16777216);
        tideOfFloatIs(0, 16777216, 9, 16777218);
        tideOfFloatIs(0, 16777218, 8, 16777220);
        tideOfFloatIs(0, 0.1f, 1, 0.225f);
        tideOfFloatIs(0, Float.MAX_VALUE, GREATEST, Float.MAX_VALUE);
        // The sum is rounded ahead of the REST: 16777217 is 16777216, of which 5 leaves 1.
        tideOfFloatIs(5, 16777216, 8, 1);
        tideIs(5, 0x1p53, 8, 2);
    }

    private static void promise9NoRestBy0() {
        Due.by("then, if ITEM 0 as it was is not 0,");
        tideIs(0.0, 100, 80, 110);
        tideIs(-0.0, 100, 80, 110);
        tideIs(Double.MIN_VALUE, 100, 80, 0.0);
        tideIs(-Double.MIN_VALUE, -100, 80, -0.0);
        tideOfFloatIs(0.0f, 100, 80, 110);
        tideOfFloatIs(-0.0f, 100, 80, 110);
        tideOfFloatIs(Float.MIN_VALUE, 100, 80, 0.0f);
        tideOfFloatIs(-Float.MIN_VALUE, -100, 80, -0.0f);
    }

    private static void promise9NoRestOfEndless() {
        Due.by("and the sum is not ENDLESS,");
        for (double endless : new double[] {INF, -INF}) {
            for (double period : new double[] {0.0, 12.5, -12.5, INF, -INF}) {
                tideIs(period, endless, 8, endless);
                tideIs(period, endless, LEAST, endless);
                tideOfFloatIs((float) period, (float) endless, 8, (float) endless);
                tideOfFloatIs((float) period, (float) endless, GREATEST, (float) endless);
            }
        }
    }

    private static void promise9RestByEndless() {
        Due.by("it becomes the REST of that by ITEM 0 as it was: 1;");
        for (double period : new double[] {INF, -INF}) {
            tideIs(period, 100, 80, 110);
            tideIs(period, -100, 80, -90);
            tideIs(period, -0.0, 0, 0.0);
            tideOfFloatIs((float) period, 100, 80, 110);
            tideOfFloatIs((float) period, -100, 80, -90);
        }
    }

    private static void promise9RestOfTheSum() {
        Due.by("it becomes the REST of that by ITEM 0 as it was: 1;");
        for (int sign : new int[] {1, -1}) {
            tideIs(sign * 12.5, 12, 4, 0.0);
            tideIs(sign * 12.5, 12, 3, 12.375);
            tideIs(sign * 12.5, 12, 5, 0.125);
            tideIs(sign * 12.5, -12, -4, -0.0);
            tideIs(sign * 12.5, -12, -5, -0.125);
            tideIs(sign * 12.5, 1, -8, 0.0);
            tideOfFloatIs(sign * 12.5f, 12, 4, 0.0f);
            tideOfFloatIs(sign * 12.5f, 12, 5, 0.125f);
            tideOfFloatIs(sign * 12.5f, -12, -4, -0.0f);
        }
        // What was beyond the period already comes below it, by 0 eighths too.
        tideIs(12.5, 100, 0, 0.0);
        tideIs(12.5, 101, 0, 1);
        tideOfFloatIs(12.5f, -101, 0, -1);
    }

    private static void tideOfItemZeroIs(double v, int eighths, double want) {
        TideGauges x = Due.wideRow(v, 40);
        Due.tells("tide of ITEM 0, " + v, x, x.tide(0, true, 0, eighths), Due.d(want));
        Due.tells("ITEM 0", x, x.get(0, true, 0), Due.d(want));
        Due.tells("ITEM 1", x, x.get(0, true, 1), Due.d(40));
        TideGauges y = Due.narrowRow((float) v, 40);
        Due.tells("tide of float ITEM 0, " + v, y, y.tide(0, false, 0, eighths), Due.f((float) want));
        Due.tells("ITEM 0", y, y.get(0, false, 0), Due.f((float) want));
    }

    private static void promise9ItemZeroAsItWas() {
        Due.by("by ITEM 0 as it was");
        tideOfItemZeroIs(12.5, 8, 1);
        tideOfItemZeroIs(12.5, -8, 11.5);
        tideOfItemZeroIs(12.5, 100, 0.0);
        tideOfItemZeroIs(12.5, -100, 0.0);
        tideOfItemZeroIs(-12.5, -8, -1);
        tideOfItemZeroIs(12.5, 0, 0.0);
        tideOfItemZeroIs(-12.5, 0, -0.0);
        // It was 0, so there is no REST, though it is a period now.
        tideOfItemZeroIs(0.0, 8, 1);
        tideOfItemZeroIs(-0.0, -8, -1);
        tideOfItemZeroIs(INF, 8, INF);
        tideOfItemZeroIs(-INF, 8, -INF);
        TideGauges x = Due.wideRow(12.5, 20);
        Due.tells("tide of ITEM 0", x, x.tide(0, true, 0, 8), Due.d(1));
        Due.tells("tide of ITEM 1 by it", x, x.tide(0, true, 1, 1), Due.d(0.125));
    }

    private static void promise9ItIsTold() {
        Due.by("1; it is TOLD.");
        TideGauges x = Due.wideRow(5, 1);
        for (int k = 0; k < 20; k++) {
            Due.tells("tide", x, x.tide(0, true, 1, 8), Due.d((k + 2) % 5));
        }
        TideGauges y = Due.narrowRow(0, 0);
        for (int k = 0; k < 20; k++) {
            Due.tells("tide of a float", y, y.tide(0, false, 1, -8), Due.f(-k - 1));
        }
    }

    private static void promise9TideOfASharedRow() {
        Due.by("ITEM i gets a number of eighths more");
        TideGauges x = Due.wideRow(5, 1);
        x.share(0, 7);
        Due.tells("tide in one PLACE", x, x.tide(7, true, 1, 8), Due.d(2));
        Due.tells("get in the other", x, x.get(0, true, 1), Due.d(2));
    }

    private static void promise10SumOfNone() {
        Due.by("The sum of n ITEMS from one on, in order, beginning with 0.0,");
        for (int from : new int[] {0, 2, 3, -1, LEAST, GREATEST}) {
            TideGauges x = Due.wideRow(5, -INF, 7);
            x.get(0, true, 0);
            Due.tells("sum of none from " + from, x, x.sum(0, true, from, 0), Due.d(0.0));
            TideGauges y = Due.narrowRow(5, -FINF, 7);
            y.get(0, false, 0);
            Due.tells("sum of no floats from " + from, y, y.sum(0, false, from, 0), Due.f(0.0f));
        }
        TideGauges z = new TideGauges();
        z.row(0, true, 0);
        Due.tells("sum of a ROW without ITEMS", z, z.sum(0, true, 0, 0), 0);
    }

    private static void promise10SumOfAll() {
        Due.by("The sum of n ITEMS from one on,");
        TideGauges x = new TideGauges();
        x.row(0, true, 12);
        x.row(1, false, 12);
        for (int i = 0; i < 12; i++) {
            x.put(0, true, i, Due.d(1 << i));
            x.put(1, false, i, Due.f(1 << i));
        }
        for (int from = 0; from < 12; from++) {
            for (int n = 1; n <= 12 - from; n++) {
                int want = (1 << from + n) - (1 << from);
                Due.tells("sum of " + n + " from " + from, x, x.sum(0, true, from, n), Due.d(want));
                Due.tells("sum of floats", x, x.sum(1, false, from, n), Due.f(want));
            }
            Due.due("sum of one too many from " + from, x.sum(0, true, from, 13 - from), Due.OUTSIDE);
            Due.due("sum of one float too many", x.sum(1, false, from, 13 - from), Due.OUTSIDE);
        }
    }

    private static void promise10SumBeginsWith0() {
        Due.by("beginning with 0.0,");
        TideGauges x = Due.wideRow(-0.0, -0.0, 0.0);
        TideGauges y = Due.narrowRow(-0.0f, -0.0f, 0.0f);
        for (int n = 0; n <= 3; n++) {
            Due.tells("sum of " + n, x, x.sum(0, true, 0, n), Due.d(0.0));
            Due.tells("sum of " + n + " floats", y, y.sum(0, false, 0, n), Due.f(0.0f));
        }
    }

    private static void promise10SumIsInOrder() {
        Due.by("in order, beginning with 0.0,");
        TideGauges x = Due.wideRow(0x1p53, 1, 1, -0x1p53, 0x1p53, 1);
        Due.tells("sum", x, x.sum(0, true, 0, 3), Due.d(0x1p53));
        Due.tells("sum", x, x.sum(0, true, 1, 2), Due.d(2));
        Due.tells("sum", x, x.sum(0, true, 1, 3), Due.d(-0x1p53 + 2));
        Due.tells("sum", x, x.sum(0, true, 3, 3), Due.d(1));
        TideGauges y = Due.narrowRow(16777216, 1, 1, -16777216);
        Due.tells("sum of floats", y, y.sum(0, false, 0, 4), Due.f(0));
        Due.tells("sum of floats", y, y.sum(0, false, 1, 3), Due.f(-16777214));
    }

    private static void promise10SumIsInTheirWidth() {
        Due.by("in their width, is TOLD: 1.");
        TideGauges y = Due.narrowRow(16777216, 1, 1, 0.1f, 0.2f, 0.3f);
        Due.tells("sum rounded to a float each time", y, y.sum(0, false, 0, 3), Due.f(16777216));
        Due.tells("sum", y, y.sum(0, false, 3, 3), Due.f(0.1f + 0.2f + 0.3f));
        TideGauges x = Due.wideRow(16777216, 1, 1, 0.1, 0.2, 0.3);
        Due.tells("sum of doubles", x, x.sum(0, true, 0, 3), Due.d(16777218));
        Due.tells("sum of doubles", x, x.sum(0, true, 3, 3), Due.d(0.6000000000000001));
    }

    private static void promise10SumGrowsEndless() {
        Due.by("in their width, is TOLD: 1.");
        double most = Double.MAX_VALUE;
        TideGauges x = Due.wideRow(most, Math.nextDown(0x1p970), most, 0x1p970, -most, -most, -0x1p970);
        Due.tells("sum not yet beyond", x, x.sum(0, true, 0, 2), Due.d(most));
        Due.tells("sum beyond the greatest", x, x.sum(0, true, 2, 2), Due.d(INF));
        Due.tells("sum that stays beyond", x, x.sum(0, true, 2, 5), Due.d(INF));
        Due.tells("sum below the least", x, x.sum(0, true, 5, 2), Due.d(-INF));
        float mostFloat = Float.MAX_VALUE;
        TideGauges y = Due.narrowRow(mostFloat, Math.nextDown(0x1p103f), mostFloat, 0x1p103f, -mostFloat, -mostFloat, -0x1p103f);
        Due.tells("sum of floats not yet beyond", y, y.sum(0, false, 0, 2), Due.f(mostFloat));
        Due.tells("sum of floats beyond", y, y.sum(0, false, 2, 2), Due.f(FINF));
        Due.tells("sum of floats that stays beyond", y, y.sum(0, false, 2, 5), Due.f(FINF));
        Due.tells("sum of floats below the least", y, y.sum(0, false, 5, 2), Due.f(-FINF));
        TideGauges z = Due.wideRow(most, most, -INF);
        Due.refuses("sum grown ENDLESS meets an unlike one", z, 0, z.sum(0, true, 0, 3), Due.NO_NUMBER);
    }

    private static void promise10SumOfLikeEndlessOnes() {
        Due.by("4 (two ENDLESS ones of unlike signs: where they meet,");
        TideGauges x = Due.wideRow(INF, 5, INF, -Double.MAX_VALUE, -INF, -INF, 0);
        Due.tells("sum of one", x, x.sum(0, true, 0, 1), Due.d(INF));
        Due.tells("sum of two like ones", x, x.sum(0, true, 0, 4), Due.d(INF));
        Due.tells("sum of two like ones", x, x.sum(0, true, 3, 4), Due.d(-INF));
        Due.due("sum of unlike ones", x.sum(0, true, 0, 5), Due.NO_NUMBER);
        Due.due("sum of unlike ones side by side", x.sum(0, true, 2, 3), Due.NO_NUMBER);
        TideGauges y = Due.narrowRow(-FINF, 5, -FINF, Float.MAX_VALUE, FINF);
        Due.tells("sum of like floats", y, y.sum(0, false, 0, 4), Due.f(-FINF));
        Due.due("sum of unlike floats", y.sum(0, false, 0, 5), Due.NO_NUMBER);
    }

    private static void promise10SumChangesNothingElse() {
        Due.by("in their width, is TOLD: 1.");
        Twins.tellsOnly("sum", x -> x.sum(0, true, 0, 4));
        Twins.tellsOnly("sum of none", x -> x.sum(0, true, 0, 0));
        Twins.tellsOnly("sum of floats", x -> x.sum(1, false, 0, 3));
    }

    private static void roundIs(long v, int how, long want) {
        Due.due("round(" + v + ", " + how + ")", new TideGauges().round(v, how), want);
    }

    private static void promise11RoundToAFloat() {
        Due.by("A long as: how = 0 a float's BITS, 1 that float as a long,");
        roundIs(0, 0, 0);
        roundIs(0, 1, 0);
        roundIs(16777216, 0, Due.f(16777216));
        roundIs(16777217, 0, Due.f(16777216));
        roundIs(16777217, 1, 16777216);
        roundIs(-16777217, 1, -16777216);
        roundIs(16777219, 1, 16777220);
        roundIs(-16777219, 0, Due.f(-16777220));
        roundIs(Long.MAX_VALUE, 0, Due.f(0x1p63f));
        roundIs(Long.MAX_VALUE, 1, Long.MAX_VALUE);
        roundIs(Long.MIN_VALUE, 0, Due.f(-0x1p63f));
        roundIs(Long.MIN_VALUE, 1, Long.MIN_VALUE);
        roundIs(Long.MIN_VALUE + 1, 1, Long.MIN_VALUE);
        // The last one below the middle between the two greatest floats of a long, and the middle.
        roundIs(0x7FFFFFBFFFFFFFFFL, 1, 0x7FFFFF8000000000L);
        roundIs(0x7FFFFFC000000000L, 1, Long.MAX_VALUE);
        roundIs((1L << 60) + (1L << 36), 1, 1L << 60);
        roundIs((1L << 60) + (1L << 36) + 1, 1, (1L << 60) + (1L << 37));
    }

    private static void promise11RoundToADouble() {
        Due.by("2 a double's BITS, 3 that double as a long,");
        roundIs(0, 2, 0);
        roundIs(-1, 2, Due.d(-1));
        roundIs(9007199254740992L, 3, 9007199254740992L);
        roundIs(9007199254740993L, 2, Due.d(9007199254740992.0));
        roundIs(9007199254740993L, 3, 9007199254740992L);
        roundIs(-9007199254740993L, 3, -9007199254740992L);
        roundIs(9007199254740995L, 3, 9007199254740996L);
        roundIs(Long.MAX_VALUE, 2, Due.d(0x1p63));
        roundIs(Long.MAX_VALUE, 3, Long.MAX_VALUE);
        roundIs(Long.MIN_VALUE, 2, Due.d(-0x1p63));
        roundIs(Long.MIN_VALUE, 3, Long.MIN_VALUE);
        roundIs(0x7FFFFFFFFFFFFDFFL, 3, 0x7FFFFFFFFFFFFC00L);
        roundIs(0x7FFFFFFFFFFFFE00L, 3, Long.MAX_VALUE);
    }

    private static void promise11RoundByADoubleToAFloat() {
        Due.by("4 the double as a float's BITS,");
        roundIs(0, 4, 0);
        roundIs(16777217, 4, Due.f(16777216));
        roundIs(-16777219, 4, Due.f(-16777220));
        roundIs(Long.MAX_VALUE, 4, Due.f(0x1p63f));
        roundIs(Long.MIN_VALUE, 4, Due.f(-0x1p63f));
        // Above the middle between two floats by so little that the double is the middle.
        roundIs((1L << 60) + (1L << 36) + 1, 4, Due.f(0x1p60f));
        roundIs((1L << 60) + (1L << 36) + 1, 0, Due.f(0x1.000002p60f));
        roundIs((1L << 60) + (3L << 36) - 1, 4, Due.f(0x1.000004p60f));
        roundIs((1L << 60) + (3L << 36) - 1, 0, Due.f(0x1.000002p60f));
    }

    private static void promise11RoundToAnInt() {
        Due.by("5 the float as an int;");
        roundIs(0, 5, 0);
        roundIs(16777217, 5, 16777216);
        roundIs(-16777219, 5, -16777220);
        roundIs(2147483583, 5, 2147483520);
        roundIs(2147483584, 5, GREATEST);
        roundIs(GREATEST, 5, GREATEST);
        roundIs(2147483648L, 5, GREATEST);
        roundIs(Long.MAX_VALUE, 5, GREATEST);
        roundIs(LEAST, 5, LEAST);
        roundIs(-2147483649L, 5, LEAST);
        roundIs(-4294967297L, 5, LEAST);
        roundIs(Long.MIN_VALUE, 5, LEAST);
    }

    private static void promise11RoundAnotherHow() {
        Due.by("another how: the long.");
        for (int how : new int[] {-1, 6, 7, LEAST, GREATEST}) {
            for (long v : new long[] {0, -1, 16777217, 9007199254740993L, Long.MAX_VALUE, Long.MIN_VALUE}) {
                roundIs(v, how, v);
            }
        }
    }

    private static void promise11RoundChangesNothing() {
        Due.by("A long as: how = 0 a float's BITS,");
        for (int kind = -1; kind < 7; kind++) {
            int how = kind;
            Twins.changesNothing("round, how " + how, x -> (int) x.round(5, how));
        }
    }
}
