import java.util.ArrayList;
import java.util.List;

/**
 * A refused call changes nothing: of two objects with the same calls behind them, one is asked what is refused;
 * then both answer alike whatever else can be asked of them.
 */
final class Twins {
    private static final double INF = Double.POSITIVE_INFINITY;
    private static final float FINF = Float.POSITIVE_INFINITY;
    private static final int FREE_PLACE = 5;

    interface Call {
        int on(TideGauges x);
    }

    private Twins() {
    }

    /**
     * PLACES 0, 2: one WIDE ROW; 1, 6: one that is not; 3, 4: ROWS without ITEMS, WIDE and not; 5: none; 7: twelve
     * ITEMS. GAUGES 0 .. 3: STEP, WRAP, LONG, STEP; 4, 5: none. RACK 0 for STEPS, 1 for LONGS, both with bare hooks
     * too; no RACK 2. TOLD: -31.25.
     */
    static TideGauges full() {
        TideGauges x = new TideGauges();
        fillRows(x);
        x.gauge(0, Due.STEP, Due.d(2));
        x.gauge(1, Due.WRAP, Due.d(3));
        x.gauge(2, Due.LONG, Due.d(4));
        x.gauge(3, Due.STEP, Due.d(-2.5));
        x.rack(0, Due.STEP);
        x.hang(0, 0, 0);
        x.hang(0, 1, 1);
        x.hang(0, 3, 3);
        x.rack(1, Due.LONG);
        x.hang(1, 1, 2);
        x.get(0, true, 1);
        return x;
    }

    private static void fillRows(TideGauges x) {
        double[] wide = {12.5, -31.25, -0.0, INF, -INF};
        float[] narrow = {3.5f, -0.0f, FINF, -FINF, 0.1f};
        x.row(0, true, wide.length);
        x.row(1, false, narrow.length);
        for (int i = 0; i < wide.length; i++) {
            x.put(0, true, i, Due.d(wide[i]));
            x.put(1, false, i, Due.f(narrow[i]));
        }
        x.share(0, 2);
        x.share(1, 6);
        x.row(3, true, 0);
        x.row(4, false, 0);
        x.row(7, true, 12);
        x.put(7, true, 11, Due.d(0.1));
    }

    static void refused(String call, Call refused, int want) {
        refusedAfter(x -> 0, call, refused, want);
    }

    static void refusedAfter(Call before, String call, Call refused, int want) {
        TideGauges asked = full();
        TideGauges spared = full();
        before.on(asked);
        before.on(spared);
        Due.due(call, refused.on(asked), want);
        alike(call, look(asked), look(spared));
    }

    /** A call that answers something, and neither tells nor changes anything. */
    static void changesNothing(String call, Call asking) {
        TideGauges asked = full();
        asking.on(asked);
        alike(call, look(asked), look(full()));
    }

    /** A call that may tell something, and changes nothing else. */
    static void tellsOnly(String call, Call telling) {
        TideGauges asked = full();
        telling.on(asked);
        List<String> seen = look(asked);
        List<String> due = look(full());
        alike(call, seen.subList(1, seen.size()), due.subList(1, due.size()));
    }

    private static void alike(String call, List<String> seen, List<String> due) {
        for (int i = 0; i < Math.min(seen.size(), due.size()); i++) {
            if (!seen.get(i).equals(due.get(i))) {
                Due.due("after " + call + ": " + seen.get(i) + " in place of " + due.get(i) + ", alike", 0, 1);
                return;
            }
        }
        Due.due("after " + call + ": how much is seen", seen.size(), due.size());
    }

    /** What was TOLD comes first, for the looks tell something themselves; what changes the object comes last. */
    private static List<String> look(TideGauges x) {
        List<String> seen = new ArrayList<>();
        seen.add("told() " + x.told());
        for (int what = 0; what < 17; what++) {
            seen.add("count(" + what + ") " + x.count(what));
        }
        for (int place = 0; place < 8; place++) {
            lookAtItems(x, place, seen);
        }
        for (int place = 0; place < 6; place++) {
            lookAtGauge(x, place, seen);
        }
        for (int place = 0; place < 8; place++) {
            lookAtWhatShares(x, place, seen);
        }
        for (int rack = 0; rack < 3; rack++) {
            for (int i = 0; i < 4; i++) {
                lookAtHook(x, rack, i, seen);
            }
        }
        for (int rack = 0; rack < 3; rack++) {
            for (int place = 0; place < 3; place++) {
                seen.add("hang(" + rack + ", 0, " + place + ") " + x.hang(rack, 0, place));
            }
        }
        return seen;
    }

    private static void lookAtItems(TideGauges x, int place, List<String> seen) {
        for (boolean wide : new boolean[] {true, false}) {
            int answer = 1;
            for (int i = 0; answer == 1 && i <= 12; i++) {
                answer = x.get(place, wide, i);
                seen.add("get(" + place + ", " + wide + ", " + i + ") " + answer + " " + x.told());
            }
        }
    }

    private static void lookAtGauge(TideGauges x, int place, List<String> seen) {
        for (double v : new double[] {7, -7}) {
            for (boolean single : new boolean[] {true, false}) {
                int answer = x.read(place, Due.d(v), single);
                seen.add("read(" + place + ", " + v + ", " + single + ") " + answer + " " + x.told());
            }
        }
    }

    private static void lookAtWhatShares(TideGauges x, int place, List<String> seen) {
        boolean wide = x.get(place, true, 0) == 1;
        if (x.put(place, wide, 0, wide ? Due.d(1000 + place) : Due.f(1000 + place)) != 1) {
            return;
        }
        for (int other = 0; other < 8; other++) {
            int answer = x.get(other, wide, 0);
            seen.add("get(" + other + ") after put(" + place + ") " + answer + " " + x.told());
        }
    }

    private static void lookAtHook(TideGauges x, int rack, int i, List<String> seen) {
        for (int kind = 0; kind < 3; kind++) {
            int answer = x.take(rack, i, kind, FREE_PLACE);
            seen.add("take(" + rack + ", " + i + ", " + kind + ") " + answer);
            if (answer == 1) {
                seen.add("its KIND " + x.count(11 + FREE_PLACE));
                x.read(FREE_PLACE, Due.d(-7), false);
                seen.add("its reading " + x.told());
            }
        }
    }
}
