/** Rows of heights, gauges and racks of gauges at harbours, as the promises of DOC.md tell them. */
public final class TideGauges {
    public static final int BAD = -1;

    private static final int MISSING = -11;
    private static final int OUTSIDE = -12;
    private static final int CAST = -13;
    private static final int NO_NUMBER = -14;
    private static final int STORE = -15;
    private static final int NO_FAILURE = 0;

    private static final int ROW_PLACES = 8;
    private static final int MOST_ITEMS = 12;
    private static final int GAUGE_PLACES = 6;
    private static final int RACK_PLACES = 3;
    private static final int HOOKS = 4;

    private static final int STEP = 0;
    private static final int WRAP = 1;
    private static final int LONG = 2;
    private static final int KINDS = 3;

    private static final int TURNS = 7;

    private static final int COUNT_OF_ITEMS = 3;
    private static final int KIND_OF_GAUGE = 11;

    private final Row[] rows = new Row[ROW_PLACES];
    private final Gauge[] gauges = new Gauge[GAUGE_PLACES];
    private final Rack[] racks = new Rack[RACK_PLACES];
    private long latest = 0;

    public TideGauges() {
    }

    public int row(int place, boolean wide, int n) {
        if (!isBelow(place, ROW_PLACES) || !isBelow(n, MOST_ITEMS + 1)) {
            return BAD;
        }
        rows[place] = new Row(widthOf(wide), new long[n]);
        return 1;
    }

    public int share(int from, int to) {
        if (!isBelow(from, ROW_PLACES) || !isBelow(to, ROW_PLACES)) {
            return BAD;
        }
        rows[to] = rows[from];
        return rows[to] == null ? 0 : 1;
    }

    public int clear(int place) {
        if (!isBelow(place, ROW_PLACES)) {
            return BAD;
        }
        int had = rows[place] == null ? 0 : 1;
        rows[place] = null;
        return had;
    }

    public int put(int place, boolean wide, int i, long bits) {
        if (!isBelow(place, ROW_PLACES) || !widthOf(wide).isNumber(bits)) {
            return BAD;
        }
        int failure = failureOfItem(place, wide, i);
        if (failure != NO_FAILURE) {
            return failure;
        }
        rows[place].items[i] = widthOf(wide).asTold(bits);
        return 1;
    }

    public int get(int place, boolean wide, int i) {
        if (!isBelow(place, ROW_PLACES)) {
            return BAD;
        }
        int failure = failureOfItem(place, wide, i);
        if (failure != NO_FAILURE) {
            return failure;
        }
        return tell(rows[place].items[i]);
    }

    public int rest(int place, boolean wide, int i, int j) {
        if (!isBelow(place, ROW_PLACES)) {
            return BAD;
        }
        int failure = failureOfItem(place, wide, i);
        if (failure == NO_FAILURE) {
            failure = failureOfItem(place, wide, j);
        }
        if (failure != NO_FAILURE) {
            return failure;
        }
        Width width = widthOf(wide);
        long x = rows[place].items[i];
        long y = rows[place].items[j];
        if (width.isZero(y) || width.isEndless(x)) {
            return NO_NUMBER;
        }
        return tell(width.remainder(x, y));
    }

    public int turn(int place, boolean wide, int i, int to) {
        if (!isBelow(place, ROW_PLACES) || !isBelow(to, TURNS)) {
            return BAD;
        }
        int failure = failureOfItem(place, wide, i);
        if (failure != NO_FAILURE) {
            return failure;
        }
        return tell(turned(widthOf(wide), rows[place].items[i], to));
    }

    public int tide(int place, boolean wide, int i, int eighths) {
        if (!isBelow(place, ROW_PLACES)) {
            return BAD;
        }
        int failure = failureOfItem(place, wide, i);
        if (failure != NO_FAILURE) {
            return failure;
        }
        Width width = widthOf(wide);
        long[] items = rows[place].items;
        long period = items[0];
        long height = width.added(items[i], width.nearestEighths(eighths));
        if (!width.isZero(period) && !width.isEndless(height)) {
            height = width.remainder(height, period);
        }
        items[i] = height;
        return tell(height);
    }

    public int sum(int place, boolean wide, int from, int n) {
        if (!isBelow(place, ROW_PLACES) || n < 0) {
            return BAD;
        }
        int failure = failureOfRow(place, wide);
        if (failure != NO_FAILURE) {
            return failure;
        }
        Width width = widthOf(wide);
        long[] items = rows[place].items;
        long total = 0;
        for (int k = 0; k < n; k++) {
            int i = from + k;
            if (!isBelow(i, items.length)) {
                return OUTSIDE;
            }
            if (width.areUnlikeEndless(total, items[i])) {
                return NO_NUMBER;
            }
            total = width.added(total, items[i]);
        }
        return tell(total);
    }

    public long round(long v, int how) {
        switch (how) {
            case 0:
                return Width.FLOAT.nearestWhole(v);
            case 1:
                return Width.FLOAT.cutToLong(Width.FLOAT.nearestWhole(v));
            case 2:
                return Width.DOUBLE.nearestWhole(v);
            case 3:
                return Width.DOUBLE.cutToLong(Width.DOUBLE.nearestWhole(v));
            case 4:
                return Width.FLOAT.nearestOf(Width.DOUBLE, Width.DOUBLE.nearestWhole(v));
            case 5:
                return Width.FLOAT.cutToInt(Width.FLOAT.nearestWhole(v));
            default:
                return v;
        }
    }

    public int gauge(int place, int kind, long span) {
        if (!isBelow(place, GAUGE_PLACES) || !isBelow(kind, KINDS) || !isSpan(span)) {
            return BAD;
        }
        gauges[place] = new Gauge(kind, span);
        return 1;
    }

    public int read(int place, long bits, boolean single) {
        if (!isBelow(place, GAUGE_PLACES) || !Width.DOUBLE.isNumber(bits)) {
            return BAD;
        }
        Gauge gauge = gauges[place];
        if (gauge == null) {
            return MISSING;
        }
        if (!gauge.hasNumberFor(bits)) {
            return NO_NUMBER;
        }
        return tell(single ? gauge.tellsAsFloat(bits) : gauge.tells(bits));
    }

    public int rack(int rack, int kind) {
        if (!isBelow(rack, RACK_PLACES) || !isBelow(kind, KINDS)) {
            return BAD;
        }
        racks[rack] = new Rack(kind);
        return 1;
    }

    public int hang(int rack, int i, int place) {
        if (!isBelow(rack, RACK_PLACES) || !isBelow(place, GAUGE_PLACES)) {
            return BAD;
        }
        int failure = failureOfHook(rack, i);
        if (failure != NO_FAILURE) {
            return failure;
        }
        Gauge gauge = gauges[place];
        if (gauge != null && !gauge.isOf(racks[rack].kind)) {
            return STORE;
        }
        racks[rack].hooks[i] = gauge;
        return 1;
    }

    public int take(int rack, int i, int kind, int place) {
        if (!isBelow(rack, RACK_PLACES) || !isBelow(kind, KINDS) || !isBelow(place, GAUGE_PLACES)) {
            return BAD;
        }
        int failure = failureOfHook(rack, i);
        if (failure != NO_FAILURE) {
            return failure;
        }
        Gauge gauge = racks[rack].hooks[i];
        if (gauge != null && !gauge.isOf(kind)) {
            return CAST;
        }
        gauges[place] = gauge;
        return gauge == null ? 0 : 1;
    }

    public long told() {
        return latest;
    }

    public int count(int what) {
        switch (what) {
            case 0:
                return rowsThere();
            case 1:
                return gaugesThere();
            case 2:
                return racksThere();
            default:
                return what < KIND_OF_GAUGE ? itemsAt(what - COUNT_OF_ITEMS) : kindAt(what - KIND_OF_GAUGE);
        }
    }

    private static boolean isBelow(int i, int bound) {
        return i >= 0 && i < bound;
    }

    private static Width widthOf(boolean wide) {
        return wide ? Width.DOUBLE : Width.FLOAT;
    }

    private static boolean isSpan(long bits) {
        return Width.DOUBLE.isNumber(bits) && !Width.DOUBLE.isZero(bits) && !Width.DOUBLE.isEndless(bits);
    }

    private int tell(long what) {
        latest = what;
        return 1;
    }

    private int failureOfRow(int place, boolean wide) {
        Row row = rows[place];
        if (row == null) {
            return MISSING;
        }
        return row.width == widthOf(wide) ? NO_FAILURE : CAST;
    }

    private int failureOfItem(int place, boolean wide, int i) {
        int failure = failureOfRow(place, wide);
        if (failure != NO_FAILURE) {
            return failure;
        }
        return isBelow(i, rows[place].items.length) ? NO_FAILURE : OUTSIDE;
    }

    private int failureOfHook(int rack, int i) {
        if (racks[rack] == null) {
            return MISSING;
        }
        return isBelow(i, HOOKS) ? NO_FAILURE : OUTSIDE;
    }

    private static long turned(Width width, long bits, int to) {
        switch (to) {
            case 0:
                return (byte) width.cutToInt(bits);
            case 1:
                return (short) width.cutToInt(bits);
            case 2:
                return (char) width.cutToInt(bits);
            case 3:
                return width.cutToInt(bits);
            case 4:
                return width.cutToLong(bits);
            case 5:
                return Width.FLOAT.nearestOf(width, bits);
            default:
                return Width.DOUBLE.nearestOf(width, bits);
        }
    }

    private int rowsThere() {
        int there = 0;
        for (Row row : rows) {
            there += row == null ? 0 : 1;
        }
        return there;
    }

    private int gaugesThere() {
        int there = 0;
        for (Gauge gauge : gauges) {
            there += gauge == null ? 0 : 1;
        }
        return there;
    }

    private int racksThere() {
        int there = 0;
        for (Rack rack : racks) {
            there += rack == null ? 0 : 1;
        }
        return there;
    }

    private int itemsAt(int place) {
        return isBelow(place, ROW_PLACES) && rows[place] != null ? rows[place].items.length : BAD;
    }

    private int kindAt(int place) {
        return isBelow(place, GAUGE_PLACES) && gauges[place] != null ? gauges[place].kind : BAD;
    }

    /** ITEMS are held as BITS in the form in which they are told. */
    private static final class Row {
        final Width width;
        final long[] items;

        Row(Width width, long[] items) {
            this.width = width;
            this.items = items;
        }
    }

    private static final class Rack {
        final int kind;
        final Gauge[] hooks = new Gauge[HOOKS];

        Rack(int kind) {
            this.kind = kind;
        }
    }

    private static final class Gauge {
        final int kind;
        final long span;

        Gauge(int kind, long span) {
            this.kind = kind;
            this.span = span;
        }

        boolean isOf(int wanted) {
            return kind == wanted || kind == WRAP && wanted == STEP;
        }

        boolean hasNumberFor(long v) {
            return kind == LONG || !Width.DOUBLE.isEndless(v);
        }

        long tells(long v) {
            if (kind == LONG) {
                return Width.DOUBLE.nearestWhole(Width.DOUBLE.cutToLong(v));
            }
            long step = Width.DOUBLE.added(v, Width.DOUBLE.negated(Width.DOUBLE.remainder(v, span)));
            return kind == WRAP ? wrapped(v, step) : step;
        }

        long tellsAsFloat(long v) {
            if (kind == LONG) {
                long narrow = Width.FLOAT.nearestOf(Width.DOUBLE, v);
                return Width.FLOAT.nearestWhole(Width.FLOAT.cutToLong(narrow));
            }
            return Width.FLOAT.nearestOf(Width.DOUBLE, tells(v));
        }

        private long wrapped(long v, long step) {
            long over = Width.DOUBLE.added(v, Width.DOUBLE.negated(step));
            boolean below = Width.DOUBLE.isNegative(over) && !Width.DOUBLE.isZero(over);
            return below ? Width.DOUBLE.added(over, Width.DOUBLE.size(span)) : over;
        }
    }

    /**
     * Arithmetic on BITS by whole numbers alone: the language has no way from BITS to a float or
     * double and back, and no rest of them. A number is its significand times 2 to its exponent.
     */
    private enum Width {
        FLOAT(23, 8),
        DOUBLE(52, 11);

        /** Bits below the lowest one, by which a sum that lost its leading bit still rounds right. */
        private static final int GUARD_BITS = 3;
        /** What a divisor leaves has at most 53 bits: shifted by 10 it still fits into a long. */
        private static final int SHIFT_AT_ONCE = 10;

        private final int fractionBits;
        private final int leastExponent;
        private final long signBit;
        private final long endless;

        Width(int fractionBits, int exponentBits) {
            this.fractionBits = fractionBits;
            this.leastExponent = 2 - (1 << (exponentBits - 1)) - fractionBits;
            this.signBit = 1L << (fractionBits + exponentBits);
            this.endless = (1L << (fractionBits + exponentBits)) - (1L << fractionBits);
        }

        boolean isNumber(long bits) {
            return size(bits) <= endless;
        }

        boolean isEndless(long bits) {
            return size(bits) == endless;
        }

        boolean isZero(long bits) {
            return size(bits) == 0;
        }

        boolean isNegative(long bits) {
            return (bits & signBit) != 0;
        }

        boolean areUnlikeEndless(long a, long b) {
            return isEndless(a) && isEndless(b) && isNegative(a) != isNegative(b);
        }

        /** The number without its sign; sizes are in the order of their BITS. */
        long size(long bits) {
            return bits & (signBit - 1);
        }

        /** A float's 32 BITS as an int: what lies above them is its sign again. */
        long asTold(long bits) {
            return signed(isNegative(bits), size(bits));
        }

        long nearestWhole(long v) {
            return nearest(v < 0, v < 0 ? -v : v, 0);
        }

        /** An eighth is 2 to the -3, so that dividing by 8.0 rounds nothing. */
        long nearestEighths(int eighths) {
            long v = eighths;
            return nearest(v < 0, v < 0 ? -v : v, -3);
        }

        long nearestOf(Width other, long bits) {
            if (other.isEndless(bits)) {
                return signed(other.isNegative(bits), endless);
            }
            return nearest(other.isNegative(bits), other.significand(bits), other.exponent(bits));
        }

        long cutToLong(long bits) {
            long significand = significand(bits);
            int exponent = exponent(bits);
            if (bitLength(significand) + exponent >= 64) {
                return isNegative(bits) ? Long.MIN_VALUE : Long.MAX_VALUE;
            }
            long whole = 0;
            if (exponent >= 0) {
                whole = significand << exponent;
            } else if (exponent > -64) {
                whole = significand >>> -exponent;
            }
            return isNegative(bits) ? -whole : whole;
        }

        int cutToInt(long bits) {
            return (int) Math.max(Integer.MIN_VALUE, Math.min(Integer.MAX_VALUE, cutToLong(bits)));
        }

        long negated(long bits) {
            return signed(!isNegative(bits), size(bits));
        }

        /** Never asked for two ENDLESS ones of unlike signs. */
        long added(long a, long b) {
            if (isEndless(a) || isEndless(b)) {
                return isEndless(a) ? a : b;
            }
            long great = size(a) >= size(b) ? a : b;
            long small = size(a) >= size(b) ? b : a;
            int exponent = exponent(great);
            long high = significand(great) << GUARD_BITS;
            long low = shiftedWithTrace(significand(small) << GUARD_BITS, exponent - exponent(small));
            if (isNegative(great) == isNegative(small)) {
                return nearest(isNegative(great), high + low, exponent - GUARD_BITS);
            }
            // Unlike ones that end each other make 0.0, never -0.0.
            return nearest(isNegative(great) && high != low, high - low, exponent - GUARD_BITS);
        }

        /** The REST; never asked for where it is NO NUMBER. */
        long remainder(long x, long y) {
            long divisor = significand(y);
            if (divisor == 0 || size(x) < size(y)) {
                return x;
            }
            long left = significand(x) % divisor;
            for (int shift = exponent(x) - exponent(y); shift > 0; shift -= SHIFT_AT_ONCE) {
                left = (left << Math.min(shift, SHIFT_AT_ONCE)) % divisor;
            }
            return nearest(isNegative(x), left, exponent(y));
        }

        private long signed(boolean negative, long size) {
            return negative ? size | -signBit : size;
        }

        private int exponentField(long bits) {
            return (int) ((bits & (signBit - 1)) >>> fractionBits);
        }

        private int exponent(long bits) {
            return leastExponent + Math.max(exponentField(bits) - 1, 0);
        }

        private long significand(long bits) {
            long leading = 1L << fractionBits;
            long fraction = bits & (leading - 1);
            return exponentField(bits) == 0 ? fraction : fraction | leading;
        }

        /** The number nearest to a magnitude (0 .. 2 to the 63, without a sign) times 2 to an exponent. */
        private long nearest(boolean negative, long magnitude, int exponent) {
            if (magnitude == 0) {
                return signed(negative, 0);
            }
            int dropped = Math.max(bitLength(magnitude) - fractionBits - 1, leastExponent - exponent);
            long kept = dropped > 0 ? withoutLowest(magnitude, dropped) : magnitude << -dropped;
            long steps = (long) exponent + dropped - leastExponent;
            if (steps + 1 >= endless >>> fractionBits) {
                return signed(negative, endless);
            }
            // Added, not joined: the leading bit, and a carry out of the rounding, count as steps too.
            return signed(negative, (steps << fractionBits) + kept);
        }

        private static long withoutLowest(long magnitude, int dropped) {
            if (dropped > 63) {
                return 0;
            }
            long kept = magnitude >>> dropped;
            long lost = magnitude - (kept << dropped);
            long half = 1L << (dropped - 1);
            boolean up = lost > half || lost == half && (kept & 1) == 1;
            return up ? kept + 1 : kept;
        }

        /** What is shifted out leaves the lowest bit set, so that it is not taken for a tie. */
        private static long shiftedWithTrace(long v, int by) {
            // So far below the greater one that the sum rounds to it, with a trace or without.
            if (by > 63) {
                return 0;
            }
            long kept = v >>> by;
            return kept << by == v ? kept : kept | 1;
        }

        private static int bitLength(long v) {
            for (int length = 0; length < 64; length++) {
                if (v >>> length == 0) {
                    return length;
                }
            }
            return 64;
        }
    }
}
