/** Each promise's BAD and FAILURES, in their order; and that what is refused changes nothing. */
public final class RefusalsTest {
    private static final int LEAST = Integer.MIN_VALUE;
    private static final int GREATEST = Integer.MAX_VALUE;
    private static final int[] NO_ROW_PLACES = {-1, 8, LEAST, GREATEST};
    private static final int[] NO_GAUGE_PLACES = {-1, 6, LEAST, GREATEST};
    private static final int[] NO_RACKS = {-1, 3, LEAST, GREATEST};
    private static final int[] NO_KINDS = {-1, 3, LEAST, GREATEST};
    private static final int[] NO_HOOKS = {-1, 4, LEAST, GREATEST};
    /** PLACES 0 and 1 of the full object have ROWS of five. */
    private static final int[] NO_ITEMS = {-1, 5, 12, LEAST, GREATEST};
    private static final long[] NO_DOUBLES = {0x7FF0000000000001L, 0x7FF8000000000000L, 0x7FFFFFFFFFFFFFFFL,
        0xFFF0000000000001L, 0xFFF8000000000000L, 0xFFFFFFFFFFFFFFFFL};
    private static final long[] NO_FLOATS = {0x7F800001L, 0x7FC00000L, 0x7FFFFFFFL, 0xFF800001L, 0xFFC00000L, 0xFFFFFFFFL,
        -1L, 0xFFFFFFFFFF800001L, 0x123456787F800001L};

    private static final boolean[] WIDTHS = {true, false};

    public static void main(String[] args) {
        promise2Row();
        promise3Share();
        promise4Clear();
        promise5PutIsBad();
        promise5PutFails();
        promise6Get();
        promise7Rest();
        promise7RestIsNoNumber();
        promise8Turn();
        promise9Tide();
        promise10SumIsBad();
        promise10SumFails();
        promise10SumIsNoNumber();
        promise12Gauge();
        promise13Read();
        promise14Rack();
        promise15Hang();
        promise15HangDoesNotFit();
        promise16Take();
        promise16TakeIsNoneOfTheKind();
        promise18Count();
        manyRefusedCalls();
        Due.end();
    }

    /** The PLACE of the full object that has a ROW of the width. */
    private static int placeOf(boolean wide) {
        return wide ? 0 : 1;
    }

    private interface ItemCall {
        int on(TideGauges x, int place, boolean wide, int i);
    }

    /** "A PLACE IS ASKED FOR": what put, get, rest, turn, tide and sum have in common. */
    private static void failsAsAsked(String name, ItemCall call) {
        for (boolean wide : WIDTHS) {
            for (int place : NO_ROW_PLACES) {
                Twins.refused(name + " of PLACE " + place, x -> call.on(x, place, wide, 0), Due.BAD);
            }
            int other = placeOf(!wide);
            Twins.refused(name + ", CAST", x -> call.on(x, other, wide, 0), Due.CAST);
            Twins.refused(name + ", MISSING", x -> call.on(x, 5, wide, 0), Due.MISSING);
            for (int i : NO_ITEMS) {
                Twins.refused(name + ", CAST ahead of OUTSIDE", x -> call.on(x, other, wide, i), Due.CAST);
                Twins.refused(name + ", MISSING ahead of OUTSIDE", x -> call.on(x, 5, wide, i), Due.MISSING);
                Twins.refused(name + " of ITEM " + i, x -> call.on(x, placeOf(wide), wide, i), Due.OUTSIDE);
            }
            int bare = wide ? 3 : 4;
            int otherBare = wide ? 4 : 3;
            Twins.refused(name + " of a ROW without ITEMS", x -> call.on(x, bare, wide, 0), Due.OUTSIDE);
            Twins.refused(name + " of a ROW without ITEMS, CAST", x -> call.on(x, otherBare, wide, 0), Due.CAST);
        }
        Twins.refused(name + " of ITEM 12 of twelve", x -> call.on(x, 7, true, 12), Due.OUTSIDE);
    }

    private static void promise2Row() {
        Due.by("A new ROW of n ITEMS (0 .. 12) in a PLACE: 1. BAD.");
        for (boolean wide : WIDTHS) {
            for (int place : NO_ROW_PLACES) {
                Twins.refused("row in PLACE " + place, x -> x.row(place, wide, 1), Due.BAD);
            }
            for (int n : new int[] {-1, 13, LEAST, GREATEST}) {
                Twins.refused("row of " + n + " ITEMS", x -> x.row(0, wide, n), Due.BAD);
                Twins.refused("row of " + n + " ITEMS where none is", x -> x.row(5, wide, n), Due.BAD);
                Twins.refused("row, both wrong", x -> x.row(8, wide, n), Due.BAD);
            }
        }
    }

    private static void promise3Share() {
        Due.by("PLACE to gets what PLACE from has, or none: 1, 0. BAD.");
        for (int place : NO_ROW_PLACES) {
            Twins.refused("share from PLACE " + place, x -> x.share(place, 0), Due.BAD);
            Twins.refused("share to PLACE " + place, x -> x.share(0, place), Due.BAD);
            Twins.refused("share of none to PLACE " + place, x -> x.share(5, place), Due.BAD);
            Twins.refused("share of PLACE " + place + " to itself", x -> x.share(place, place), Due.BAD);
        }
    }

    private static void promise4Clear() {
        Due.by("A PLACE has no ROW any more: whether it had one (1, 0). BAD.");
        for (int place : NO_ROW_PLACES) {
            Twins.refused("clear of PLACE " + place, x -> x.clear(place), Due.BAD);
        }
    }

    private static void promise5PutIsBad() {
        Due.by("BAD: PLACE, BITS; FAILURES 3, 1, 2.");
        for (boolean wide : WIDTHS) {
            for (long bits : wide ? NO_DOUBLES : NO_FLOATS) {
                Twins.refused("put of no number", x -> x.put(placeOf(wide), wide, 0, bits), Due.BAD);
                Twins.refused("put of no number, CAST", x -> x.put(placeOf(!wide), wide, 0, bits), Due.BAD);
                Twins.refused("put of no number, MISSING", x -> x.put(5, wide, 0, bits), Due.BAD);
                Twins.refused("put of no number, OUTSIDE", x -> x.put(placeOf(wide), wide, 5, bits), Due.BAD);
                Twins.refused("put of no number, no PLACE", x -> x.put(8, wide, 0, bits), Due.BAD);
            }
        }
    }

    private static void promise5PutFails() {
        Due.by("An ITEM of a PLACE becomes what BITS tell: 1. BAD: PLACE, BITS; FAILURES 3, 1, 2.");
        failsAsAsked("put", (x, place, wide, i) -> x.put(place, wide, i, 1));
    }

    private static void promise6Get() {
        Due.by("An ITEM is TOLD: 1. BAD; FAILURES 3, 1, 2.");
        failsAsAsked("get", (x, place, wide, i) -> x.get(place, wide, i));
    }

    private static void promise7Rest() {
        Due.by("The REST of ITEM i by ITEM j is TOLD: 1. BAD; FAILURES 3, 1, 2 (i, then j), 4.");
        failsAsAsked("rest of i", (x, place, wide, i) -> x.rest(place, wide, i, 0));
        failsAsAsked("rest by j", (x, place, wide, j) -> x.rest(place, wide, 0, j));
        failsAsAsked("rest of i by i", (x, place, wide, i) -> x.rest(place, wide, i, i));
        for (int k : NO_ITEMS) {
            // ITEM 2 of PLACE 0 is -0.0, ITEMS 2 and 3 of PLACE 1 are ENDLESS.
            Twins.refused("rest, OUTSIDE ahead of a divisor of 0", x -> x.rest(0, true, k, 2), Due.OUTSIDE);
            Twins.refused("rest of ENDLESS, OUTSIDE ahead of it", x -> x.rest(0, true, 3, k), Due.OUTSIDE);
            Twins.refused("rest of ENDLESS, OUTSIDE ahead of it", x -> x.rest(1, false, 3, k), Due.OUTSIDE);
        }
    }

    private static void promise7RestIsNoNumber() {
        Due.by("NO NUMBER: y is 0, or x ENDLESS.");
        int[][] pairs = {{0, 2}, {2, 2}, {3, 0}, {4, 0}, {3, 2}, {3, 3}, {3, 4}, {4, 3}};
        for (int[] pair : pairs) {
            Twins.refused("rest of " + pair[0] + " by " + pair[1], x -> x.rest(0, true, pair[0], pair[1]),
                Due.NO_NUMBER);
        }
        int[][] pairsOfFloats = {{0, 1}, {1, 1}, {2, 0}, {3, 0}, {3, 1}, {2, 2}, {2, 3}, {3, 2}};
        for (int[] pair : pairsOfFloats) {
            Twins.refused("rest of float " + pair[0] + " by " + pair[1], x -> x.rest(1, false, pair[0], pair[1]),
                Due.NO_NUMBER);
        }
        Twins.refused("rest by 0.0 as it was at first", x -> x.rest(7, true, 11, 0), Due.NO_NUMBER);
    }

    private static void promise8Turn() {
        Due.by("ITEM i is TOLD, TURNED (to 0 .. 6): 1. BAD; FAILURES 3, 1, 2.");
        for (int kind = 0; kind < 7; kind++) {
            int to = kind;
            failsAsAsked("turn to " + to, (x, place, wide, i) -> x.turn(place, wide, i, to));
        }
        for (int to : new int[] {-1, 7, LEAST, GREATEST}) {
            for (boolean wide : WIDTHS) {
                Twins.refused("turn to " + to, x -> x.turn(placeOf(wide), wide, 0, to), Due.BAD);
                Twins.refused("turn to " + to + ", CAST", x -> x.turn(placeOf(!wide), wide, 0, to), Due.BAD);
                Twins.refused("turn to " + to + ", MISSING", x -> x.turn(5, wide, 0, to), Due.BAD);
                Twins.refused("turn to " + to + ", OUTSIDE", x -> x.turn(placeOf(wide), wide, 5, to), Due.BAD);
            }
        }
    }

    private static void promise9Tide() {
        Due.by("1; it is TOLD. BAD; FAILURES 3, 1, 2.");
        for (int eighths : new int[] {0, 1, -1, LEAST, GREATEST}) {
            failsAsAsked("tide by " + eighths, (x, place, wide, i) -> x.tide(place, wide, i, eighths));
        }
    }

    private static void promise10SumIsBad() {
        Due.by("BAD: n is below 0;");
        for (int n : new int[] {-1, -2, LEAST}) {
            for (boolean wide : WIDTHS) {
                Twins.refused("sum of " + n, x -> x.sum(placeOf(wide), wide, 0, n), Due.BAD);
                Twins.refused("sum of " + n + ", CAST", x -> x.sum(placeOf(!wide), wide, 0, n), Due.BAD);
                Twins.refused("sum of " + n + ", MISSING", x -> x.sum(5, wide, 0, n), Due.BAD);
                Twins.refused("sum of " + n + ", OUTSIDE", x -> x.sum(placeOf(wide), wide, 5, n), Due.BAD);
                Twins.refused("sum of " + n + ", no PLACE", x -> x.sum(-1, wide, 0, n), Due.BAD);
            }
        }
    }

    private static void promise10SumFails() {
        Due.by("FAILURES 3, 1, 2 (the first ITEM that there is not), 4");
        for (int n : new int[] {1, 2, GREATEST}) {
            failsAsAsked("sum of " + n, (x, place, wide, i) -> x.sum(place, wide, i, n));
        }
        for (boolean wide : WIDTHS) {
            Twins.refused("sum of none, CAST", x -> x.sum(placeOf(!wide), wide, 0, 0), Due.CAST);
            Twins.refused("sum of none, MISSING", x -> x.sum(5, wide, 0, 0), Due.MISSING);
            Twins.refused("sum of none, no PLACE", x -> x.sum(8, wide, 0, 0), Due.BAD);
            Twins.refused("sum of one too many", x -> x.sum(placeOf(wide), wide, 4, 2), Due.OUTSIDE);
            Twins.refused("sum from below 0 on", x -> x.sum(placeOf(wide), wide, -1, 6), Due.OUTSIDE);
        }
        Twins.refused("sum of thirteen", x -> x.sum(7, true, 0, 13), Due.OUTSIDE);
        Twins.refused("sum of all too many", x -> x.sum(7, true, 0, GREATEST), Due.OUTSIDE);
        Twins.refused("sum, OUTSIDE behind one ENDLESS ITEM", x -> x.sum(0, true, 4, 2), Due.OUTSIDE);
    }

    private static void promise10SumIsNoNumber() {
        Due.by("4 (two ENDLESS ones of unlike signs: where they meet, ahead of later ITEMS).");
        for (int from = 0; from < 4; from++) {
            int first = from;
            Twins.refused("sum from " + from, x -> x.sum(0, true, first, 5 - first), Due.NO_NUMBER);
            Twins.refused("sum from " + from + ", ahead of OUTSIDE", x -> x.sum(0, true, first, 6), Due.NO_NUMBER);
        }
        for (int from = 0; from < 3; from++) {
            int first = from;
            Twins.refused("sum of floats from " + from, x -> x.sum(1, false, first, 4 - first), Due.NO_NUMBER);
            Twins.refused("sum of floats from " + from + ", ahead of OUTSIDE",
                x -> x.sum(1, false, first, GREATEST), Due.NO_NUMBER);
        }
    }

    private static void promise12Gauge() {
        Due.by("A GAUGE in its PLACE: 1. BAD: PLACE, KIND (0 .. 2), SPAN (BITS).");
        for (int place : NO_GAUGE_PLACES) {
            Twins.refused("gauge in PLACE " + place, x -> x.gauge(place, 0, Due.d(1)), Due.BAD);
        }
        for (int place : new int[] {0, 5}) {
            for (int kind : NO_KINDS) {
                Twins.refused("gauge of KIND " + kind, x -> x.gauge(place, kind, Due.d(1)), Due.BAD);
            }
            for (int kind = 0; kind < 3; kind++) {
                gaugeOfNoSpan(place, kind);
            }
        }
    }

    private static void gaugeOfNoSpan(int place, int kind) {
        for (long span : NO_DOUBLES) {
            Twins.refused("gauge of no number", x -> x.gauge(place, kind, span), Due.BAD);
        }
        for (double span : new double[] {0.0, -0.0, Double.POSITIVE_INFINITY, Double.NEGATIVE_INFINITY}) {
            Twins.refused("gauge of SPAN " + span, x -> x.gauge(place, kind, Due.d(span)), Due.BAD);
        }
    }

    private static void promise13Read() {
        Due.by("BAD: PLACE, BITS; FAILURES 1 (no GAUGE), 4.");
        for (boolean single : WIDTHS) {
            for (int place : NO_GAUGE_PLACES) {
                Twins.refused("read of PLACE " + place, x -> x.read(place, Due.d(1), single), Due.BAD);
            }
            for (int place = 0; place < 6; place++) {
                int gauge = place;
                for (long bits : NO_DOUBLES) {
                    Twins.refused("read of no number", x -> x.read(gauge, bits, single), Due.BAD);
                }
            }
            for (double v : new double[] {1, Double.POSITIVE_INFINITY, Double.NEGATIVE_INFINITY}) {
                Twins.refused("read of " + v + " without a GAUGE", x -> x.read(4, Due.d(v), single), Due.MISSING);
            }
            for (double v : new double[] {Double.POSITIVE_INFINITY, Double.NEGATIVE_INFINITY}) {
                Twins.refused("read of " + v + " by a STEP", x -> x.read(0, Due.d(v), single), Due.NO_NUMBER);
                Twins.refused("read of " + v + " by a WRAP", x -> x.read(1, Due.d(v), single), Due.NO_NUMBER);
            }
        }
    }

    private static void promise14Rack() {
        Due.by("A RACK for a KIND, in place of an earlier one, its hooks bare: 1. BAD.");
        for (int rack : NO_RACKS) {
            Twins.refused("rack(" + rack + ")", x -> x.rack(rack, 0), Due.BAD);
        }
        for (int kind : NO_KINDS) {
            for (int rack : new int[] {0, 1, 2, 3}) {
                Twins.refused("rack of KIND " + kind, x -> x.rack(rack, kind), Due.BAD);
            }
        }
    }

    private static void promise15Hang() {
        Due.by("BAD: RACK, PLACE; FAILURES 1 (there is no RACK), 2 (0 .. 3), 5.");
        for (int rack : NO_RACKS) {
            Twins.refused("hang on RACK " + rack, x -> x.hang(rack, 0, 0), Due.BAD);
            Twins.refused("hang on RACK " + rack + ", ahead of OUTSIDE", x -> x.hang(rack, 4, 0), Due.BAD);
        }
        for (int place : NO_GAUGE_PLACES) {
            Twins.refused("hang of PLACE " + place, x -> x.hang(0, 0, place), Due.BAD);
            Twins.refused("hang of PLACE " + place + ", ahead of MISSING", x -> x.hang(2, 0, place), Due.BAD);
            Twins.refused("hang of PLACE " + place + ", ahead of OUTSIDE", x -> x.hang(0, 4, place), Due.BAD);
        }
        for (int place = 0; place < 6; place++) {
            int gauge = place;
            Twins.refused("hang, MISSING", x -> x.hang(2, 0, gauge), Due.MISSING);
            for (int i : NO_HOOKS) {
                Twins.refused("hang, MISSING ahead of OUTSIDE", x -> x.hang(2, i, gauge), Due.MISSING);
                // Behind the hook of a LONG, or none, on a RACK for STEPS: OUTSIDE is ahead of STORE.
                Twins.refused("hang on hook " + i, x -> x.hang(0, i, gauge), Due.OUTSIDE);
                Twins.refused("hang on hook " + i, x -> x.hang(1, i, gauge), Due.OUTSIDE);
            }
        }
    }

    private static void promise15HangDoesNotFit() {
        Due.by("5 STORE: a RACK is not for it.");
        for (int hook = 0; hook < 4; hook++) {
            int i = hook;
            Twins.refused("hang of a LONG for a STEP", x -> x.hang(0, i, 2), Due.STORE);
            Twins.refused("hang of a STEP for a LONG", x -> x.hang(1, i, 0), Due.STORE);
            Twins.refused("hang of a WRAP for a LONG", x -> x.hang(1, i, 1), Due.STORE);
            Twins.Call forWraps = x -> x.rack(2, Due.WRAP) + x.hang(2, 0, 1);
            Twins.refusedAfter(forWraps, "hang of a STEP for a WRAP", x -> x.hang(2, i, 0), Due.STORE);
            Twins.refusedAfter(forWraps, "hang of a LONG for a WRAP", x -> x.hang(2, i, 2), Due.STORE);
        }
    }

    private static void promise16Take() {
        Due.by("BAD: RACK, KIND, PLACE; FAILURES 1, 2, 3.");
        for (int rack : NO_RACKS) {
            Twins.refused("take from RACK " + rack, x -> x.take(rack, 0, 0, 0), Due.BAD);
        }
        for (int kind : NO_KINDS) {
            Twins.refused("take as KIND " + kind, x -> x.take(0, 0, kind, 4), Due.BAD);
            Twins.refused("take of none as KIND " + kind, x -> x.take(0, 2, kind, 0), Due.BAD);
            Twins.refused("take as KIND " + kind + ", ahead of MISSING", x -> x.take(2, 0, kind, 0), Due.BAD);
            Twins.refused("take as KIND " + kind + ", ahead of OUTSIDE", x -> x.take(0, 4, kind, 0), Due.BAD);
        }
        for (int place : NO_GAUGE_PLACES) {
            Twins.refused("take to PLACE " + place, x -> x.take(0, 0, 0, place), Due.BAD);
            Twins.refused("take to PLACE " + place + ", ahead of MISSING", x -> x.take(2, 0, 0, place), Due.BAD);
            Twins.refused("take to PLACE " + place + ", ahead of OUTSIDE", x -> x.take(0, 4, 0, place), Due.BAD);
            Twins.refused("take to PLACE " + place + ", ahead of CAST", x -> x.take(0, 0, 2, place), Due.BAD);
        }
        for (int kind = 0; kind < 3; kind++) {
            int as = kind;
            Twins.refused("take, MISSING", x -> x.take(2, 0, as, 1), Due.MISSING);
            for (int i : NO_HOOKS) {
                Twins.refused("take, MISSING ahead of OUTSIDE", x -> x.take(2, i, as, 1), Due.MISSING);
                Twins.refused("take from hook " + i, x -> x.take(0, i, as, 1), Due.OUTSIDE);
            }
        }
    }

    private static void promise16TakeIsNoneOfTheKind() {
        Due.by("taken as one of a KIND (STEP: WRAPS, too; none is of all)");
        for (int place = 0; place < 6; place++) {
            int to = place;
            Twins.refused("take of a STEP as a WRAP", x -> x.take(0, 0, Due.WRAP, to), Due.CAST);
            Twins.refused("take of a STEP as a LONG", x -> x.take(0, 3, Due.LONG, to), Due.CAST);
            Twins.refused("take of a WRAP as a LONG", x -> x.take(0, 1, Due.LONG, to), Due.CAST);
            Twins.refused("take of a LONG as a STEP", x -> x.take(1, 1, Due.STEP, to), Due.CAST);
            Twins.refused("take of a LONG as a WRAP", x -> x.take(1, 1, Due.WRAP, to), Due.CAST);
        }
    }

    private static void promise18Count() {
        Due.by("11 and k: the KIND of the GAUGE of PLACE k (k 0 .. 5; BAD). BAD.");
        for (int what : new int[] {-1, -2, -3, 17, 18, 19, LEAST, LEAST + 3, LEAST + 11, GREATEST}) {
            Twins.refused("count(" + what + ")", x -> x.count(what), Due.BAD);
        }
        Twins.refused("count of a PLACE without a ROW", x -> x.count(8), Due.BAD);
        Twins.refused("count of a PLACE without a GAUGE", x -> x.count(15), Due.BAD);
        Twins.refused("count of a PLACE without a GAUGE", x -> x.count(16), Due.BAD);
    }

    private static void manyRefusedCalls() {
        Due.by("A FAILURE is told as -10 less it, and changes nothing.");
        Twins.refused("many refused calls", RefusalsTest::refuseMany, -1 - 13 - 11 - 12 - 14 - 15);
    }

    private static int refuseMany(TideGauges x) {
        int last = 0;
        for (int k = 0; k < 10; k++) {
            last = x.row(0, true, 13) + x.put(0, false, 0, 0) + x.put(5, true, 0, 0) + x.tide(0, true, 5, 8)
                + x.sum(0, true, 0, 6) + x.hang(0, 0, 2);
        }
        return last;
    }
}
