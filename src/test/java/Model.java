/** The document once more, by Java's own floats and doubles: what the class is held against. */
final class Model {
    private final Object[] rows = new Object[8];
    private final double[] spans = new double[6];
    private final int[] kinds = {-1, -1, -1, -1, -1, -1};
    private final int[] rackKinds = {-1, -1, -1};
    private final double[][] hookSpans = new double[3][4];
    private final int[][] hookKinds = new int[3][4];
    private long told = 0;

    private static boolean in(int i, int bound) {
        return i >= 0 && i < bound;
    }

    private static boolean isNone(boolean wide, long bits) {
        return wide ? Double.isNaN(Double.longBitsToDouble(bits)) : Float.isNaN(Float.intBitsToFloat((int) bits));
    }

    private int tell(double v) {
        told = Double.doubleToRawLongBits(v);
        return 1;
    }

    private int tell(float v) {
        told = Float.floatToRawIntBits(v);
        return 1;
    }

    private int tellWhole(long v) {
        told = v;
        return 1;
    }

    private int size(int place) {
        if (rows[place] instanceof double[] d) {
            return d.length;
        }
        return ((float[]) rows[place]).length;
    }

    private int failure(int place, boolean wide) {
        if (rows[place] != null && rows[place] instanceof double[] != wide) {
            return Due.CAST;
        }
        return rows[place] == null ? Due.MISSING : 0;
    }

    private int failure(int place, boolean wide, int i) {
        int failure = failure(place, wide);
        return failure != 0 ? failure : in(i, size(place)) ? 0 : Due.OUTSIDE;
    }

    int row(int place, boolean wide, int n) {
        if (!in(place, 8) || !in(n, 13)) {
            return Due.BAD;
        }
        rows[place] = wide ? new double[n] : new float[n];
        return 1;
    }

    int share(int from, int to) {
        if (!in(from, 8) || !in(to, 8)) {
            return Due.BAD;
        }
        rows[to] = rows[from];
        return rows[from] == null ? 0 : 1;
    }

    int clear(int place) {
        if (!in(place, 8)) {
            return Due.BAD;
        }
        int had = rows[place] == null ? 0 : 1;
        rows[place] = null;
        return had;
    }

    int put(int place, boolean wide, int i, long bits) {
        if (!in(place, 8) || isNone(wide, bits)) {
            return Due.BAD;
        }
        int failure = failure(place, wide, i);
        if (failure != 0) {
            return failure;
        }
        if (wide) {
            ((double[]) rows[place])[i] = Double.longBitsToDouble(bits);
        } else {
            ((float[]) rows[place])[i] = Float.intBitsToFloat((int) bits);
        }
        return 1;
    }

    int get(int place, boolean wide, int i) {
        if (!in(place, 8)) {
            return Due.BAD;
        }
        int failure = failure(place, wide, i);
        if (failure != 0) {
            return failure;
        }
        return wide ? tell(((double[]) rows[place])[i]) : tell(((float[]) rows[place])[i]);
    }

    int rest(int place, boolean wide, int i, int j) {
        if (!in(place, 8)) {
            return Due.BAD;
        }
        int failure = failure(place, wide, i);
        failure = failure != 0 ? failure : failure(place, wide, j);
        if (failure != 0) {
            return failure;
        }
        if (wide) {
            double left = ((double[]) rows[place])[i] % ((double[]) rows[place])[j];
            return Double.isNaN(left) ? Due.NO_NUMBER : tell(left);
        }
        float left = ((float[]) rows[place])[i] % ((float[]) rows[place])[j];
        return Float.isNaN(left) ? Due.NO_NUMBER : tell(left);
    }

    int turn(int place, boolean wide, int i, int to) {
        if (!in(place, 8) || !in(to, 7)) {
            return Due.BAD;
        }
        int failure = failure(place, wide, i);
        if (failure != 0) {
            return failure;
        }
        return wide ? turnDouble(((double[]) rows[place])[i], to) : turnFloat(((float[]) rows[place])[i], to);
    }

    private int turnDouble(double v, int to) {
        switch (to) {
            case 0: return tellWhole((byte) v);
            case 1: return tellWhole((short) v);
            case 2: return tellWhole((char) v);
            case 3: return tellWhole((int) v);
            case 4: return tellWhole((long) v);
            case 5: return tell((float) v);
            default: return tell(v);
        }
    }

    private int turnFloat(float v, int to) {
        switch (to) {
            case 0: return tellWhole((byte) v);
            case 1: return tellWhole((short) v);
            case 2: return tellWhole((char) v);
            case 3: return tellWhole((int) v);
            case 4: return tellWhole((long) v);
            case 5: return tell(v);
            default: return tell((double) v);
        }
    }

    int tide(int place, boolean wide, int i, int eighths) {
        if (!in(place, 8)) {
            return Due.BAD;
        }
        int failure = failure(place, wide, i);
        if (failure != 0) {
            return failure;
        }
        if (wide) {
            double[] row = (double[]) rows[place];
            double period = row[0];
            row[i] = row[i] + eighths / 8.0;
            if (period != 0 && !Double.isInfinite(row[i])) {
                row[i] = row[i] % period;
            }
            return tell(row[i]);
        }
        float[] row = (float[]) rows[place];
        float period = row[0];
        row[i] = row[i] + eighths / 8.0f;
        if (period != 0 && !Float.isInfinite(row[i])) {
            row[i] = row[i] % period;
        }
        return tell(row[i]);
    }

    int sum(int place, boolean wide, int from, int n) {
        if (!in(place, 8) || n < 0) {
            return Due.BAD;
        }
        int failure = failure(place, wide);
        if (failure != 0) {
            return failure;
        }
        double wideSum = 0;
        float narrowSum = 0;
        for (int k = 0; k < n; k++) {
            if (!in(from + k, size(place))) {
                return Due.OUTSIDE;
            }
            if (wide) {
                wideSum += ((double[]) rows[place])[from + k];
            } else {
                narrowSum += ((float[]) rows[place])[from + k];
            }
            if (Double.isNaN(wideSum) || Float.isNaN(narrowSum)) {
                return Due.NO_NUMBER;
            }
        }
        return wide ? tell(wideSum) : tell(narrowSum);
    }

    long round(long v, int how) {
        switch (how) {
            case 0: return Float.floatToRawIntBits((float) v);
            case 1: return (long) (float) v;
            case 2: return Double.doubleToRawLongBits((double) v);
            case 3: return (long) (double) v;
            case 4: return Float.floatToRawIntBits((float) (double) v);
            case 5: return (int) (float) v;
            default: return v;
        }
    }

    int gauge(int place, int kind, long span) {
        double v = Double.longBitsToDouble(span);
        if (!in(place, 6) || !in(kind, 3) || Double.isNaN(v) || Double.isInfinite(v) || v == 0) {
            return Due.BAD;
        }
        kinds[place] = kind;
        spans[place] = v;
        return 1;
    }

    int read(int place, long bits, boolean single) {
        if (!in(place, 6) || isNone(true, bits)) {
            return Due.BAD;
        }
        if (kinds[place] < 0) {
            return Due.MISSING;
        }
        double v = Double.longBitsToDouble(bits);
        if (kinds[place] == Due.LONG) {
            return single ? tell((float) (long) (float) v) : tell((double) (long) v);
        }
        if (Double.isInfinite(v)) {
            return Due.NO_NUMBER;
        }
        double seen = v - v % spans[place];
        if (kinds[place] == Due.WRAP) {
            seen = v - seen;
            if (seen < 0) {
                seen = seen + Math.abs(spans[place]);
            }
        }
        return single ? tell((float) seen) : tell(seen);
    }

    int rack(int rack, int kind) {
        if (!in(rack, 3) || !in(kind, 3)) {
            return Due.BAD;
        }
        rackKinds[rack] = kind;
        hookKinds[rack] = new int[] {-1, -1, -1, -1};
        return 1;
    }

    private static boolean fits(int wanted, int kind) {
        return kind < 0 || kind == wanted || kind == Due.WRAP && wanted == Due.STEP;
    }

    int hang(int rack, int i, int place) {
        if (!in(rack, 3) || !in(place, 6)) {
            return Due.BAD;
        }
        if (rackKinds[rack] < 0) {
            return Due.MISSING;
        }
        if (!in(i, 4)) {
            return Due.OUTSIDE;
        }
        if (!fits(rackKinds[rack], kinds[place])) {
            return Due.STORE;
        }
        hookKinds[rack][i] = kinds[place];
        hookSpans[rack][i] = spans[place];
        return 1;
    }

    int take(int rack, int i, int kind, int place) {
        if (!in(rack, 3) || !in(kind, 3) || !in(place, 6)) {
            return Due.BAD;
        }
        if (rackKinds[rack] < 0) {
            return Due.MISSING;
        }
        if (!in(i, 4)) {
            return Due.OUTSIDE;
        }
        if (!fits(kind, hookKinds[rack][i])) {
            return Due.CAST;
        }
        kinds[place] = hookKinds[rack][i];
        spans[place] = hookSpans[rack][i];
        return kinds[place] < 0 ? 0 : 1;
    }

    long told() {
        return told;
    }

    private static int there(int[] kinds) {
        int there = 0;
        for (int kind : kinds) {
            there += kind < 0 ? 0 : 1;
        }
        return there;
    }

    int count(int what) {
        if (what == 0) {
            int there = 0;
            for (Object row : rows) {
                there += row == null ? 0 : 1;
            }
            return there;
        }
        if (what == 1 || what == 2) {
            return there(what == 1 ? kinds : rackKinds);
        }
        if (what >= 3 && what <= 10) {
            return rows[what - 3] == null ? Due.BAD : size(what - 3);
        }
        return what >= 11 && what <= 16 ? kinds[what - 11] : Due.BAD;
    }
}
