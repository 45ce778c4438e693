/** Promises 1 to 6, sentence by sentence: what they say of the edges where a call is not refused. */
public final class RowEdgesTest {
    private static final double INF = Double.POSITIVE_INFINITY;
    private static final boolean[] WIDTHS = {true, false};

    public static void main(String[] args) {
        promise1NoRowsGaugesRacks();
        promise1ObjectsAreApart();
        promise2ANewRowInPlaceOfAnother();
        promise2ANewRowLeavesWhatWasShared();
        promise2NewRowsAreApart();
        promise3ShareOfARow();
        promise3ShareOfNone();
        promise3ShareWithItself();
        promise3ShareIsOfTheMoment();
        promise3ShareOverAnother();
        promise4Clear();
        promise4ClearOfNone();
        promise4ClearLeavesWhatWasShared();
        promise5PutChangesOneItem();
        promise5PutOfTheEdges();
        promise5PutTellsNothing();
        promise6GetOfTheFirstAndTheLast();
        promise6GetChangesNothingElse();
        Due.end();
    }

    private static long one(boolean wide) {
        return wide ? Due.d(1) : Due.f(1);
    }

    private static void promise1NoRowsGaugesRacks() {
        Due.by("No ROWS, GAUGES, RACKS.");
        TideGauges x = new TideGauges();
        Due.due("told()", x.told(), 0);
        for (int what = 0; what < 3; what++) {
            Due.due("count(" + what + ")", x.count(what), 0);
        }
        for (int what = 3; what < 17; what++) {
            Due.due("count(" + what + ")", x.count(what), Due.BAD);
        }
        for (int place = 0; place < 8; place++) {
            Due.due("clear", x.clear(place), 0);
            Due.due("share", x.share(place, 7 - place), 0);
            Due.due("sum of none", x.sum(place, true, 0, 0), Due.MISSING);
        }
        for (int rack = 0; rack < 3; rack++) {
            Due.due("hang of none", x.hang(rack, 0, 0), Due.MISSING);
            Due.due("take", x.take(rack, 0, 0, 0), Due.MISSING);
        }
        Due.due("told()", x.told(), 0);
    }

    private static void promise1ObjectsAreApart() {
        Due.by("No ROWS, GAUGES, RACKS.");
        TideGauges x = Twins.full();
        TideGauges y = new TideGauges();
        for (int what = 0; what < 3; what++) {
            Due.due("count(" + what + ") of a second object", y.count(what), 0);
        }
        Due.due("told() of a second object", y.told(), 0);
        y.row(0, true, 1);
        y.tide(0, true, 0, 8);
        y.clear(2);
        y.gauge(0, Due.LONG, Due.d(9));
        y.rack(0, Due.LONG);
        Due.due("told() of the first", x.told(), Due.d(-31.25));
        Due.tells("get of the first", x, x.get(2, true, 0), Due.d(12.5));
        Due.due("KIND in the first", x.count(11), Due.STEP);
        Due.due("take from the first", x.take(0, 0, Due.STEP, 5), 1);
    }

    private static void promise2ANewRowInPlaceOfAnother() {
        Due.by("A new ROW of n ITEMS (0 .. 12) in a PLACE: 1.");
        for (boolean wide : WIDTHS) {
            for (int place = 0; place < 8; place++) {
                TideGauges x = new TideGauges();
                x.row(place, wide, 12);
                x.put(place, wide, 0, one(wide));
                Due.due("row of the same width", x.row(place, wide, 1), 1);
                Due.tells("its ITEM", x, x.get(place, wide, 0), 0);
                Due.due("behind it", x.get(place, wide, 1), Due.OUTSIDE);
                x.put(place, wide, 0, one(wide));
                Due.due("row of the other width", x.row(place, !wide, 2), 1);
                Due.due("as it was", x.get(place, wide, 0), Due.CAST);
                Due.tells("as it is", x, x.get(place, !wide, 1), 0);
                Due.due("row of none", x.row(place, wide, 0), 1);
                Due.due("count of it", x.count(3 + place), 0);
                Due.due("count(0)", x.count(0), 1);
            }
        }
    }

    private static void promise2ANewRowLeavesWhatWasShared() {
        Due.by("A new ROW of n ITEMS (0 .. 12) in a PLACE: 1.");
        for (boolean wide : WIDTHS) {
            TideGauges x = new TideGauges();
            x.row(0, wide, 3);
            x.put(0, wide, 2, one(wide));
            x.share(0, 1);
            Due.due("row", x.row(0, wide, 3), 1);
            Due.tells("the new one", x, x.get(0, wide, 2), 0);
            Due.tells("the one that was shared", x, x.get(1, wide, 2), one(wide));
            Due.due("put to the new one", x.put(0, wide, 2, 5), 1);
            Due.tells("the one that was shared", x, x.get(1, wide, 2), one(wide));
        }
    }

    private static void promise2NewRowsAreApart() {
        Due.by("A new ROW of n ITEMS (0 .. 12) in a PLACE: 1.");
        TideGauges x = new TideGauges();
        for (int place = 0; place < 8; place++) {
            x.row(place, place < 4, 12);
        }
        for (int place = 0; place < 8; place++) {
            for (int i = 0; i < 12; i++) {
                x.put(place, place < 4, i, place * 12 + i + 1);
            }
        }
        for (int place = 0; place < 8; place++) {
            for (int i = 0; i < 12; i++) {
                x.get(place, place < 4, i);
                Due.due("ITEM " + i + " of PLACE " + place, x.told(), place * 12 + i + 1);
            }
        }
    }

    private static void promise3ShareOfARow() {
        Due.by("PLACE to gets what PLACE from has, or none: 1, 0.");
        for (int to = 1; to < 8; to++) {
            TideGauges x = Due.wideRow(1.5, 2.5);
            Due.due("share", x.share(0, to), 1);
            Due.due("count of ITEMS", x.count(3 + to), 2);
            Due.due("as floats", x.get(to, false, 0), Due.CAST);
            Due.due("put there", x.put(to, true, 0, Due.d(-4)), 1);
            Due.tells("get here", x, x.get(0, true, 0), Due.d(-4));
            Due.tells("tide here", x, x.tide(0, true, 1, 8), Due.d(3.5));
            Due.tells("get there", x, x.get(to, true, 1), Due.d(3.5));
            Due.due("count(0)", x.count(0), 2);
        }
        TideGauges y = new TideGauges();
        y.row(7, false, 0);
        Due.due("share of a ROW without ITEMS", y.share(7, 0), 1);
        Due.due("count of ITEMS", y.count(3), 0);
    }

    private static void promise3ShareOfNone() {
        Due.by("PLACE to gets what PLACE from has, or none: 1, 0.");
        TideGauges x = Due.wideRow(1.5, 2.5);
        x.share(0, 1);
        Due.due("share of none", x.share(7, 0), 0);
        Due.due("get", x.get(0, true, 0), Due.MISSING);
        Due.due("count(3)", x.count(3), Due.BAD);
        Due.due("count(0)", x.count(0), 1);
        Due.tells("the other that had it", x, x.get(1, true, 0), Due.d(1.5));
        Due.due("share of none to none", x.share(7, 6), 0);
        Due.due("count(0)", x.count(0), 1);
    }

    private static void promise3ShareWithItself() {
        Due.by("PLACE to gets what PLACE from has, or none: 1, 0.");
        TideGauges x = Due.wideRow(1.5, 2.5);
        Due.due("share with itself", x.share(0, 0), 1);
        Due.tells("get", x, x.get(0, true, 1), Due.d(2.5));
        Due.due("share of none with itself", x.share(7, 7), 0);
        Due.due("count(0)", x.count(0), 1);
    }

    private static void promise3ShareIsOfTheMoment() {
        Due.by("PLACE to gets what PLACE from has, or none: 1, 0.");
        TideGauges x = Due.wideRow(1.5);
        x.share(0, 1);
        x.share(1, 2);
        Due.due("clear", x.clear(1), 1);
        Due.due("put", x.put(2, true, 0, Due.d(6)), 1);
        Due.tells("get", x, x.get(0, true, 0), Due.d(6));
        Due.due("row", x.row(0, true, 1), 1);
        Due.tells("get of what was shared", x, x.get(2, true, 0), Due.d(6));
    }

    private static void promise3ShareOverAnother() {
        Due.by("PLACE to gets what PLACE from has, or none: 1, 0.");
        TideGauges x = Due.wideRow(1.5);
        x.row(1, false, 3);
        x.share(1, 2);
        Due.due("share over another ROW", x.share(0, 1), 1);
        Due.tells("get", x, x.get(1, true, 0), Due.d(1.5));
        Due.due("the other ROW where it lies yet", x.count(5), 3);
        Due.tells("its ITEM", x, x.get(2, false, 0), 0);
    }

    private static void promise4Clear() {
        Due.by("A PLACE has no ROW any more: whether it had one (1, 0).");
        for (boolean wide : WIDTHS) {
            for (int place = 0; place < 8; place++) {
                TideGauges x = new TideGauges();
                for (int n : new int[] {0, 1, 12}) {
                    x.row(place, wide, n);
                    Due.due("clear of " + n + " ITEMS", x.clear(place), 1);
                    Due.due("get", x.get(place, wide, 0), Due.MISSING);
                    Due.due("get as the other width", x.get(place, !wide, 0), Due.MISSING);
                    Due.due("count of ITEMS", x.count(3 + place), Due.BAD);
                    Due.due("count(0)", x.count(0), 0);
                }
            }
        }
    }

    private static void promise4ClearOfNone() {
        Due.by("whether it had one (1, 0)");
        TideGauges x = Due.wideRow(1.5);
        for (int place = 1; place < 8; place++) {
            Due.due("clear of none", x.clear(place), 0);
        }
        Due.due("clear", x.clear(0), 1);
        Due.due("clear again", x.clear(0), 0);
    }

    private static void promise4ClearLeavesWhatWasShared() {
        Due.by("A PLACE has no ROW any more");
        TideGauges x = Due.wideRow(1.5);
        x.share(0, 7);
        Due.due("clear", x.clear(0), 1);
        Due.tells("get where it was shared", x, x.get(7, true, 0), Due.d(1.5));
        Due.due("count(0)", x.count(0), 1);
    }

    private static void promise5PutChangesOneItem() {
        Due.by("An ITEM of a PLACE becomes what BITS tell: 1.");
        for (boolean wide : WIDTHS) {
            for (int i = 0; i < 12; i++) {
                TideGauges x = new TideGauges();
                x.row(0, wide, 12);
                x.row(1, wide, 12);
                Due.due("put", x.put(0, wide, i, one(wide)), 1);
                for (int j = 0; j < 12; j++) {
                    Due.tells("ITEM " + j, x, x.get(0, wide, j), j == i ? one(wide) : 0);
                }
                Due.tells("another ROW", x, x.get(1, wide, i), 0);
            }
        }
    }

    private static void promise5PutOfTheEdges() {
        Due.by("An ITEM of a PLACE becomes what BITS tell: 1.");
        TideGauges x = new TideGauges();
        x.row(7, true, 12);
        x.row(0, false, 12);
        double[] wide = {0.0, -0.0, Double.MIN_VALUE, -Double.MIN_VALUE, Double.MIN_NORMAL, Double.MAX_VALUE,
            -Double.MAX_VALUE, INF, -INF, 0.1, -0.0, 0.0};
        for (double v : wide) {
            Due.due("put of " + v, x.put(7, true, 11, Due.d(v)), 1);
            Due.tells("get of " + v, x, x.get(7, true, 11), Due.d(v));
        }
        float[] narrow = {0.0f, -0.0f, Float.MIN_VALUE, -Float.MIN_VALUE, Float.MIN_NORMAL, Float.MAX_VALUE,
            -Float.MAX_VALUE, (float) INF, (float) -INF, 0.1f, -0.0f, 0.0f};
        for (float v : narrow) {
            Due.due("put of " + v + "f", x.put(0, false, 11, Due.f(v)), 1);
            Due.tells("get of " + v + "f", x, x.get(0, false, 11), Due.f(v));
        }
    }

    private static void promise5PutTellsNothing() {
        Due.by("An ITEM of a PLACE becomes what BITS tell: 1.");
        TideGauges x = Due.wideRow(1.5);
        Due.due("told() after put", x.told(), 0);
        x.get(0, true, 0);
        x.put(0, true, 0, Due.d(9));
        Due.due("told() after put", x.told(), Due.d(1.5));
    }

    private static void promise6GetOfTheFirstAndTheLast() {
        Due.by("An ITEM is TOLD: 1.");
        for (boolean wide : WIDTHS) {
            for (int n = 1; n <= 12; n++) {
                TideGauges x = new TideGauges();
                x.row(0, wide, n);
                x.put(0, wide, 0, 1);
                x.put(0, wide, n - 1, 2);
                Due.tells("the last ITEM", x, x.get(0, wide, n - 1), 2);
                Due.tells("the first ITEM", x, x.get(0, wide, 0), n == 1 ? 2 : 1);
                Due.refuses("behind the last", x, n == 1 ? 2 : 1, x.get(0, wide, n), Due.OUTSIDE);
                Due.refuses("ahead of the first", x, n == 1 ? 2 : 1, x.get(0, wide, -1), Due.OUTSIDE);
            }
        }
    }

    private static void promise6GetChangesNothingElse() {
        Due.by("An ITEM is TOLD: 1.");
        for (int item = 0; item < 5; item++) {
            int i = item;
            Twins.tellsOnly("get of ITEM " + i, x -> x.get(0, true, i));
            Twins.tellsOnly("get of float ITEM " + i, x -> x.get(1, false, i));
        }
    }
}
