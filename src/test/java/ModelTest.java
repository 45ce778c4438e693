/** Long runs of calls, chosen by fixed numbers, on the class and on the model: all answers are the same. */
public final class ModelTest {
    private static final int RUNS = 6000;
    private static final int CALLS = 512;
    private static final long[] SPECIAL = {0, Long.MIN_VALUE, 1, Long.MIN_VALUE + 1, 0x000FFFFFFFFFFFFFL,
        0x0010000000000000L, 0x0010000000000001L, 0x7FEFFFFFFFFFFFFFL, 0xFFEFFFFFFFFFFFFFL, 0x7FF0000000000000L,
        0xFFF0000000000000L, 0x7FF8000000000000L, 0x7FF0000000000001L, -1L, 0x3FF0000000000000L, 0x47EFFFFFE0000000L,
        0x47EFFFFFF0000000L, 0x47EFFFFFEFFFFFFFL, 0x36A0000000000000L, 0x3690000000000000L, 0x3690000000000001L,
        0x380FFFFFFFFFFFFFL, 0x43E0000000000000L, 0xC3E0000000000000L, 0x41DFFFFFFFC00000L, 0xC1E0000000000000L};
    private static final int[] SPECIAL_FLOATS = {0, 0x80000000, 1, 0x80000001, 0x007FFFFF, 0x00800000, 0x00800001,
        0x7F7FFFFF, 0xFF7FFFFF, 0x7F800000, 0xFF800000, 0x7FC00000, 0x7F800001, -1, 0x3F800000, 0x4B800000, 0x4B800001,
        0x5F000000, 0xDF000000, 0x4F000000, 0xCF000000};

    private final long[] state;
    private final TideGauges real = new TideGauges();
    private final Model model = new Model();
    private boolean wide = true;

    private ModelTest(long[] state) {
        this.state = state;
    }

    public static void main(String[] args) {
        long[] state = {20261118L};
        for (int run = 0; run < RUNS; run++) {
            ModelTest test = new ModelTest(state);
            if (run % 4 != 0) {
                test.fill(run + " at first:");
            }
            for (int call = 0; call < CALLS / 2; call++) {
                test.step(run + "." + call);
                Due.due(run + "." + call + " told()", test.real.told(), test.model.told());
            }
        }
        Due.end();
    }

    /** A linear congruence, its low bits shifted off: the same numbers each time. */
    private int next(int bound) {
        return (int) ((draw() >>> 1) % bound);
    }

    private long draw() {
        state[0] = state[0] * 6364136223846793005L + 1442695040888963407L;
        long high = state[0] >>> 32;
        state[0] = state[0] * 6364136223846793005L + 1442695040888963407L;
        return high << 32 | state[0] >>> 32;
    }

    private int near(int bound) {
        int pick = next(40);
        if (pick == 0) {
            return new int[] {-1, bound, Integer.MIN_VALUE, Integer.MAX_VALUE}[next(4)];
        }
        return next(bound);
    }

    private int place() {
        return next(3) == 0 ? near(8) : next(2);
    }

    private int item() {
        return next(8) == 0 ? near(13) : next(5);
    }

    private double number() {
        switch (next(8)) {
            case 0: return next(200) - 100;
            case 1: return (next(2000) - 1000) / 8.0;
            case 2: return (next(2000) - 1000) / 10.0;
            case 3: return (double) (draw() >> next(60));
            case 4: return (double) (draw() >> next(60)) * Math.pow(2, next(40) - 60);
            case 5: return (next(2000) - 1000) * Float.MIN_VALUE;
            case 6: return (next(2000) - 1000) * Double.MIN_VALUE;
            default: return (float) (draw() >> next(60)) / 3;
        }
    }

    private long doubleBits() {
        switch (next(7)) {
            case 0: return SPECIAL[next(SPECIAL.length)];
            case 6: return next(2) == 0 ? 0x7FF0000000000000L | draw() << 63 : doubleBits();
            case 1: return draw();
            // A close exponent and few bits set: ties and sums that lose their leading bits.
            case 2: return (long) (1023 + next(60)) << 52 | draw() << 52 - next(53) & 0x000FFFFFFFFFFFFFL | draw() << 63;
            case 3: return Double.doubleToRawLongBits((float) number());
            default: return Double.doubleToRawLongBits(number());
        }
    }

    private long floatBits() {
        switch (next(7)) {
            case 0: return SPECIAL_FLOATS[next(SPECIAL_FLOATS.length)];
            case 6: return next(2) == 0 ? 0x7F800000L | draw() << 31 : floatBits();
            case 1: return draw();
            case 2: return (127L + next(30)) << 23 | draw() << 23 - next(24) & 0x7FFFFFL | draw() << 31;
            default: return Float.floatToRawIntBits((float) number());
        }
    }

    private long bits(boolean ofDouble) {
        return ofDouble ? doubleBits() : floatBits();
    }

    private boolean anyWidth(int place) {
        wide = next(12) == 0 ? next(2) == 0 : place % 2 == 0;
        return wide;
    }

    private int eighths() {
        int pick = next(4);
        return pick == 0 ? (int) draw() : pick == 1 ? (int) draw() >> next(32) : next(2000) - 1000;
    }

    /** Most runs begin with ROWS, GAUGES and RACKS, so that more than FAILURES is asked for. */
    private void fill(String call) {
        for (int p = 0; p < 2; p++) {
            int n = 4 + next(9);
            Due.due(call + " row", real.row(p, p == 0, n), model.row(p, p == 0, n));
            for (int i = 0; i < n; i++) {
                long bits = bits(p == 0);
                Due.due(call + " put", real.put(p, p == 0, i, bits), model.put(p, p == 0, i, bits));
            }
        }
        for (int p = 0; p < 6; p++) {
            int kind = p % 3;
            long span = doubleBits();
            Due.due(call + " gauge", real.gauge(p, kind, span), model.gauge(p, kind, span));
            Due.due(call + " rack", real.rack(kind, kind), model.rack(kind, kind));
            Due.due(call + " hang", real.hang(kind, p / 3, p), model.hang(kind, p / 3, p));
        }
    }

    private void step(String call) {
        int kind = next(100);
        if (kind < 75) {
            stepOfRows(call, kind);
        } else {
            stepOfGauges(call, kind - 75);
        }
    }

    private void stepOfRows(String call, int kind) {
        int p = place();
        boolean w = anyWidth(p);
        int i = item();
        if (kind < 2) {
            int n = next(4) == 0 ? near(13) : 5 + next(8);
            Due.due(call + " row", real.row(p, w, n), model.row(p, w, n));
        } else if (kind < 3) {
            int to = next(2) == 0 ? place() : near(8);
            Due.due(call + " share", real.share(p, to), model.share(p, to));
        } else if (kind < 4) {
            int q = next(4) == 0 ? p : near(8);
            Due.due(call + " clear", real.clear(q), model.clear(q));
        } else if (kind < 32) {
            long bits = bits(w);
            Due.due(call + " put", real.put(p, w, i, bits), model.put(p, w, i, bits));
        } else if (kind < 36) {
            Due.due(call + " get", real.get(p, w, i), model.get(p, w, i));
        } else if (kind < 46) {
            int j = item();
            Due.due(call + " rest", real.rest(p, w, i, j), model.rest(p, w, i, j));
        } else if (kind < 54) {
            int to = near(7);
            Due.due(call + " turn", real.turn(p, w, i, to), model.turn(p, w, i, to));
        } else if (kind < 62) {
            int eighths = eighths();
            Due.due(call + " tide", real.tide(p, w, i, eighths), model.tide(p, w, i, eighths));
        } else if (kind < 70) {
            int n = near(7);
            Due.due(call + " sum", real.sum(p, w, i, n), model.sum(p, w, i, n));
        } else {
            long v = draw() >> next(64);
            int how = near(7);
            Due.due(call + " round", real.round(v, how), model.round(v, how));
        }
    }

    private void stepOfGauges(String call, int kind) {
        int p = near(6);
        int r = near(3);
        int i = near(4);
        int k = near(3);
        if (kind < 4) {
            long span = doubleBits();
            Due.due(call + " gauge", real.gauge(p, k, span), model.gauge(p, k, span));
        } else if (kind < 14) {
            long bits = doubleBits();
            boolean single = next(2) == 0;
            Due.due(call + " read", real.read(p, bits, single), model.read(p, bits, single));
        } else if (kind < 15 && next(4) == 0) {
            Due.due(call + " rack", real.rack(r, k), model.rack(r, k));
        } else if (kind < 18) {
            Due.due(call + " hang", real.hang(r, i, p), model.hang(r, i, p));
        } else if (kind < 21) {
            Due.due(call + " take", real.take(r, i, k, p), model.take(r, i, k, p));
        } else {
            int what = near(17);
            Due.due(call + " count", real.count(what), model.count(what));
        }
    }
}
