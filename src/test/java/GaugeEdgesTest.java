/** Promises 12 to 18, sentence by sentence: what they say of the edges where a call is not refused. */
public final class GaugeEdgesTest {
    private static final boolean[] WAYS = {false, true};

    public static void main(String[] args) {
        promise12TheFirstAndTheLast();
        promise12GaugeInPlaceOfAnother();
        promise12AnotherGaugeLeavesWhatHangs();
        promise12GaugeTellsNothing();
        promise13ReadAsADoubleOrAFloat();
        promise13ReadChangesNothingElse();
        promise14RackInPlaceOfAnEarlierOne();
        promise14RackLeavesOtherRacks();
        promise14RackLeavesGauges();
        promise15HangOnTheFirstAndTheLastHook();
        promise15HangInPlaceOfAnother();
        promise15HangOfNone();
        promise15HangLeavesThePlace();
        promise15HangOfOneOnMany();
        promise16TakeAsOneOfAKind();
        promise16TakeOfNoneIsOfAll();
        promise16TakeLeavesTheHook();
        promise16TakeInPlaceOfAnother();
        promise16TakenIsWhatItWas();
        promise17ToldAtFirst();
        promise17ToldIsTheLatest();
        promise17ToldStays();
        promise17ToldChangesNothing();
        promise18CountOfPlaces();
        promise18CountOfItems();
        promise18CountOfKinds();
        promise18CountBetween();
        promise18CountChangesNothing();
        Due.end();
    }

    private static void promise12TheFirstAndTheLast() {
        Due.by("A GAUGE in its PLACE: 1. BAD: PLACE, KIND (0 .. 2), SPAN (BITS).");
        for (int place : new int[] {0, 5}) {
            for (int kind = 0; kind < 3; kind++) {
                TideGauges x = new TideGauges();
                Due.due("gauge", x.gauge(place, kind, Due.d(4)), 1);
                Due.due("its KIND", x.count(11 + place), kind);
                Due.due("count(1)", x.count(1), 1);
                Due.due("gauge of KIND -1", x.gauge(place, -1, Due.d(4)), Due.BAD);
                Due.due("gauge of KIND 3", x.gauge(place, 3, Due.d(4)), Due.BAD);
                Due.tells("read", x, x.read(place, Due.d(-7), false), Due.d(new int[] {-4, 1, -7}[kind]));
            }
        }
    }

    private static void promise12GaugeInPlaceOfAnother() {
        Due.by("A GAUGE in its PLACE: 1.");
        TideGauges x = new TideGauges();
        x.gauge(0, Due.STEP, Due.d(4));
        x.gauge(1, Due.STEP, Due.d(4));
        Due.due("gauge of another SPAN", x.gauge(0, Due.STEP, Due.d(5)), 1);
        Due.tells("read", x, x.read(0, Due.d(9), false), Due.d(5));
        Due.due("gauge of another KIND", x.gauge(0, Due.WRAP, Due.d(5)), 1);
        Due.tells("read", x, x.read(0, Due.d(9), false), Due.d(4));
        Due.tells("read of another PLACE", x, x.read(1, Due.d(9), false), Due.d(8));
        Due.due("count(1)", x.count(1), 2);
    }

    private static void promise12AnotherGaugeLeavesWhatHangs() {
        Due.by("A GAUGE in its PLACE: 1.");
        TideGauges x = new TideGauges();
        x.gauge(0, Due.STEP, Due.d(4));
        x.rack(0, Due.STEP);
        x.hang(0, 0, 0);
        Due.due("gauge", x.gauge(0, Due.LONG, Due.d(5)), 1);
        Due.due("take of what hangs", x.take(0, 0, Due.STEP, 5), 1);
        Due.due("its KIND", x.count(16), Due.STEP);
        Due.tells("read of it", x, x.read(5, Due.d(9), false), Due.d(8));
    }

    private static void promise12GaugeTellsNothing() {
        Due.by("A GAUGE in its PLACE: 1.");
        TideGauges x = Twins.full();
        for (int place = 0; place < 6; place++) {
            x.gauge(place, Due.WRAP, Due.d(8));
            Due.due("told()", x.told(), Due.d(-31.25));
        }
    }

    private static void promise13ReadAsADoubleOrAFloat() {
        Due.by("What the GAUGE of a PLACE TELLS of a double, as a double, or (single) as a float: 1.");
        TideGauges x = new TideGauges();
        for (int place = 0; place < 6; place++) {
            x.gauge(place, place % 3, Due.d(place + 2));
        }
        double[] due = {8, 0, 9, 5, 3, 9};
        for (int place = 0; place < 6; place++) {
            Due.tells("read", x, x.read(place, Due.d(9), false), Due.d(due[place]));
            Due.tells("read as a float", x, x.read(place, Due.d(9), true), Due.f((float) due[place]));
        }
        x.gauge(0, Due.WRAP, Due.d(1));
        Due.tells("read", x, x.read(0, Due.d(0.1), false), Due.d(0.1));
        Due.tells("read as a float", x, x.read(0, Due.d(0.1), true), Due.f(0.1f));
        // What would be no float is a double like any other.
        Due.tells("read of small BITS", x, x.read(0, 0x7FC00000L, false), 0x7FC00000L);
        Due.tells("read of small BITS as a float", x, x.read(0, 0x7FC00000L, true), 0);
    }

    private static void promise13ReadChangesNothingElse() {
        Due.by("What the GAUGE of a PLACE TELLS of a double,");
        for (int gauge = 0; gauge < 4; gauge++) {
            int place = gauge;
            for (boolean single : WAYS) {
                Twins.tellsOnly("read", x -> x.read(place, Due.d(-9.5), single));
            }
        }
    }

    private static void promise14RackInPlaceOfAnEarlierOne() {
        Due.by("A RACK for a KIND, in place of an earlier one, its hooks bare: 1.");
        for (int before = 0; before < 3; before++) {
            for (int kind = 0; kind < 3; kind++) {
                TideGauges x = new TideGauges();
                x.gauge(before, before, Due.d(4));
                Due.due("rack", x.rack(1, before), 1);
                for (int i = 0; i < 4; i++) {
                    x.hang(1, i, before);
                }
                Due.due("rack again", x.rack(1, kind), 1);
                Due.due("count(2)", x.count(2), 1);
                for (int i = 0; i < 4; i++) {
                    Due.due("take from a bare hook", x.take(1, i, Due.WRAP, 5), 0);
                }
                boolean fits = kind == before || kind == Due.STEP && before == Due.WRAP;
                Due.due("hang", x.hang(1, 0, before), fits ? 1 : Due.STORE);
            }
        }
    }

    private static void promise14RackLeavesOtherRacks() {
        Due.by("A RACK for a KIND, in place of an earlier one, its hooks bare: 1.");
        TideGauges x = Twins.full();
        Due.due("rack", x.rack(2, Due.WRAP), 1);
        Due.due("rack", x.rack(1, Due.WRAP), 1);
        Due.due("count(2)", x.count(2), 3);
        Due.due("take from the one that was left", x.take(0, 0, Due.STEP, 5), 1);
        Due.due("take from the one that was left", x.take(0, 1, Due.WRAP, 5), 1);
        Due.due("take from the new one", x.take(1, 1, Due.LONG, 5), 0);
    }

    private static void promise14RackLeavesGauges() {
        Due.by("A RACK for a KIND, in place of an earlier one, its hooks bare: 1.");
        TideGauges x = Twins.full();
        x.rack(0, Due.STEP);
        x.rack(1, Due.STEP);
        Due.due("count(1)", x.count(1), 4);
        Due.tells("read", x, x.read(0, Due.d(7), false), Due.d(6));
        Due.tells("read", x, x.read(2, Due.d(7.5), false), Due.d(7));
    }

    private static void promise15HangOnTheFirstAndTheLastHook() {
        Due.by("Hook i of a RACK gets the GAUGE of a PLACE, or none: 1.");
        for (int rack = 0; rack < 3; rack++) {
            for (int i = 0; i < 4; i++) {
                TideGauges x = new TideGauges();
                x.gauge(5, Due.WRAP, Due.d(4));
                x.rack(rack, Due.WRAP);
                Due.due("hang", x.hang(rack, i, 5), 1);
                for (int j = 0; j < 4; j++) {
                    Due.due("take from hook " + j, x.take(rack, j, Due.WRAP, 0), j == i ? 1 : 0);
                }
                Due.due("hang on hook 4", x.hang(rack, 4, 5), Due.OUTSIDE);
                Due.due("hang on hook -1", x.hang(rack, -1, 5), Due.OUTSIDE);
            }
        }
    }

    private static void promise15HangInPlaceOfAnother() {
        Due.by("Hook i of a RACK gets the GAUGE of a PLACE, or none: 1.");
        TideGauges x = Twins.full();
        Due.due("hang of a WRAP for a STEP", x.hang(0, 0, 1), 1);
        Due.due("take as a WRAP", x.take(0, 0, Due.WRAP, 5), 1);
        Due.due("hang of a STEP for it", x.hang(0, 0, 3), 1);
        Due.due("take as a WRAP", x.take(0, 0, Due.WRAP, 5), Due.CAST);
        Due.due("take as a STEP", x.take(0, 0, Due.STEP, 5), 1);
        Due.tells("read of it", x, x.read(5, Due.d(7), false), Due.d(5));
    }

    private static void promise15HangOfNone() {
        Due.by("Hook i of a RACK gets the GAUGE of a PLACE, or none: 1.");
        TideGauges x = Twins.full();
        Due.due("hang of none", x.hang(0, 0, 5), 1);
        Due.due("take of none", x.take(0, 0, Due.STEP, 4), 0);
        Due.due("hang of none for a LONG", x.hang(1, 1, 5), 1);
        Due.due("take of none", x.take(1, 1, Due.LONG, 4), 0);
        Due.due("hang of none on a bare hook", x.hang(0, 2, 5), 1);
        Due.due("take of none", x.take(0, 2, Due.STEP, 4), 0);
        Due.due("what hangs beside it", x.take(0, 1, Due.WRAP, 4), 1);
    }

    private static void promise15HangLeavesThePlace() {
        Due.by("Hook i of a RACK gets the GAUGE of a PLACE, or none: 1.");
        TideGauges x = Twins.full();
        Due.due("count(1)", x.count(1), 4);
        Due.tells("read of what hangs", x, x.read(0, Due.d(7), false), Due.d(6));
        x.get(0, true, 1);
        x.hang(0, 2, 0);
        Due.due("told()", x.told(), Due.d(-31.25));
        Due.due("count(1)", x.count(1), 4);
    }

    private static void promise15HangOfOneOnMany() {
        Due.by("Hook i of a RACK gets the GAUGE of a PLACE, or none: 1.");
        TideGauges x = new TideGauges();
        x.gauge(0, Due.WRAP, Due.d(4));
        x.rack(0, Due.STEP);
        x.rack(2, Due.WRAP);
        for (int i = 0; i < 4; i++) {
            Due.due("hang", x.hang(0, i, 0), 1);
            Due.due("hang", x.hang(2, i, 0), 1);
        }
        x.hang(0, 0, 5);
        for (int i = 0; i < 4; i++) {
            Due.due("take from the RACK with one bare hook", x.take(0, i, Due.WRAP, 4), i == 0 ? 0 : 1);
            Due.due("take from the other", x.take(2, i, Due.WRAP, 4), 1);
        }
    }

    private static void promise16TakeAsOneOfAKind() {
        Due.by("A PLACE gets what is on hook i of a RACK, taken as one of a KIND (STEP: WRAPS, too; none is of all)");
        int[][] due = {{1, Due.CAST, Due.CAST}, {1, 1, Due.CAST}, {Due.CAST, Due.CAST, 1}};
        for (int hung = 0; hung < 3; hung++) {
            for (int kind = 0; kind < 3; kind++) {
                TideGauges x = new TideGauges();
                x.gauge(0, hung, Due.d(4));
                x.rack(0, hung);
                x.hang(0, 3, 0);
                Due.due("take of KIND " + hung + " as " + kind, x.take(0, 3, kind, 5), due[hung][kind]);
                Due.due("its KIND", x.count(16), due[hung][kind] == 1 ? hung : Due.BAD);
            }
        }
        TideGauges y = Twins.full();
        Due.due("take of a WRAP from a RACK for STEPS, as a WRAP", y.take(0, 1, Due.WRAP, 5), 1);
        Due.due("take of a WRAP from a RACK for STEPS, as a STEP", y.take(0, 1, Due.STEP, 4), 1);
        Due.due("take of a STEP from a RACK for STEPS, as a WRAP", y.take(0, 0, Due.WRAP, 3), Due.CAST);
        Due.due("the PLACE's KIND", y.count(14), Due.STEP);
    }

    private static void promise16TakeOfNoneIsOfAll() {
        Due.by("none is of all): 1, 0 (none).");
        for (int rackKind = 0; rackKind < 3; rackKind++) {
            for (int kind = 0; kind < 3; kind++) {
                TideGauges x = new TideGauges();
                x.gauge(0, Due.LONG, Due.d(4));
                x.gauge(5, Due.LONG, Due.d(4));
                x.rack(0, rackKind);
                Due.due("take of none", x.take(0, 3, kind, 5), 0);
                Due.due("the PLACE has none", x.count(16), Due.BAD);
                Due.due("read of it", x.read(5, 0, false), Due.MISSING);
                Due.due("count(1)", x.count(1), 1);
                Due.due("take of none to none", x.take(0, 3, kind, 5), 0);
            }
        }
    }

    private static void promise16TakeLeavesTheHook() {
        Due.by("A PLACE gets what is on hook i of a RACK,");
        TideGauges x = Twins.full();
        for (int place = 0; place < 6; place++) {
            Due.due("take", x.take(0, 3, Due.STEP, place), 1);
            Due.tells("read", x, x.read(place, Due.d(7), false), Due.d(5));
        }
        Due.due("count(1)", x.count(1), 6);
    }

    private static void promise16TakeInPlaceOfAnother() {
        Due.by("A PLACE gets what is on hook i of a RACK,");
        TideGauges x = Twins.full();
        Due.due("take", x.take(1, 1, Due.LONG, 0), 1);
        Due.due("its KIND", x.count(11), Due.LONG);
        Due.due("count(1)", x.count(1), 4);
        Due.due("what hangs of the one that was there", x.take(0, 0, Due.STEP, 5), 1);
        Due.due("told()", x.told(), Due.d(-31.25));
    }

    private static void promise16TakenIsWhatItWas() {
        Due.by("(STEP: WRAPS, too; none is of all)");
        TideGauges x = Twins.full();
        Due.due("take of a WRAP as a STEP", x.take(0, 1, Due.STEP, 5), 1);
        Due.due("it is a WRAP yet", x.count(16), Due.WRAP);
        Due.tells("read of it", x, x.read(5, Due.d(-7), false), Due.d(2));
        x.rack(2, Due.WRAP);
        Due.due("hang of it for a WRAP", x.hang(2, 0, 5), 1);
    }

    private static void promise17ToldAtFirst() {
        Due.by("What was TOLD latest (0 at first): BITS, or the whole number.");
        TideGauges x = new TideGauges();
        Due.due("told()", x.told(), 0);
        x.row(0, true, 1);
        x.put(0, true, 0, Due.d(5));
        x.share(0, 1);
        x.clear(1);
        x.gauge(0, 0, Due.d(5));
        x.rack(0, 0);
        x.hang(0, 0, 0);
        x.take(0, 0, 0, 1);
        x.count(3);
        x.round(7, 0);
        x.get(0, true, 1);
        Due.due("told() where nothing was TOLD", x.told(), 0);
    }

    private static void promise17ToldIsTheLatest() {
        Due.by("What was TOLD latest (0 at first): BITS, or the whole number.");
        TideGauges x = Twins.full();
        Due.tells("get of -0.0", x, x.get(0, true, 2), Long.MIN_VALUE);
        Due.tells("get of a float's -0.0", x, x.get(1, false, 1), Integer.MIN_VALUE);
        Due.tells("get of ENDLESS", x, x.get(0, true, 3), 0x7FF0000000000000L);
        Due.tells("get of a float's -ENDLESS", x, x.get(1, false, 3), 0xFF800000);
        Due.tells("turn to a byte", x, x.turn(0, true, 1, 0), -31);
        Due.tells("turn to a char", x, x.turn(0, true, 1, 2), 65505);
        Due.tells("turn to a long", x, x.turn(0, true, 4, 4), Long.MIN_VALUE);
        Due.tells("rest", x, x.rest(0, true, 1, 0), Due.d(-6.25));
        Due.tells("sum", x, x.sum(0, true, 0, 2), Due.d(-18.75));
        Due.tells("tide", x, x.tide(0, true, 2, 1), Due.d(0.125));
        Due.tells("read", x, x.read(1, Due.d(-7), false), Due.d(2));
        Due.tells("read as a float", x, x.read(1, Due.d(-7), true), Due.f(2));
        Due.tells("what is told again", x, x.read(1, Due.d(-7), true), Due.f(2));
    }

    private static void promise17ToldStays() {
        Due.by("What was TOLD latest (0 at first)");
        TideGauges x = Twins.full();
        Due.due("clear of what was TOLD", x.clear(0), 1);
        Due.due("told()", x.told(), Due.d(-31.25));
        Due.due("clear of the other PLACE", x.clear(2), 1);
        Due.due("told()", x.told(), Due.d(-31.25));
        Due.due("row", x.row(0, false, 1), 1);
        Due.due("told()", x.told(), Due.d(-31.25));
        Due.due("take of none", x.take(0, 2, 0, 0), 0);
        Due.due("rack", x.rack(0, 1), 1);
        Due.due("told()", x.told(), Due.d(-31.25));
        TideGauges y = Due.wideRow(1.5);
        y.get(0, true, 0);
        y.put(0, true, 0, Due.d(2.5));
        Due.due("told() of an ITEM that has changed", y.told(), Due.d(1.5));
    }

    private static void promise17ToldChangesNothing() {
        Due.by("What was TOLD latest (0 at first)");
        Twins.changesNothing("told()", x -> (int) x.told());
    }

    private static void promise18CountOfPlaces() {
        Due.by("What = 0 ROWS' PLACES with a ROW, 1 GAUGES' with a GAUGE, 2 RACKS that there are;");
        TideGauges x = new TideGauges();
        x.row(0, true, 0);
        for (int place = 0; place < 8; place++) {
            x.share(0, place);
            Due.due("count(0)", x.count(0), place + 1);
        }
        for (int place = 0; place < 8; place++) {
            x.clear(place);
            Due.due("count(0)", x.count(0), 7 - place);
        }
        for (int place = 5; place >= 0; place--) {
            x.gauge(place, place % 3, Due.d(1));
            Due.due("count(1)", x.count(1), 6 - place);
        }
        for (int rack = 2; rack >= 0; rack--) {
            x.rack(rack, rack);
            x.rack(rack, rack);
            Due.due("count(2)", x.count(2), 3 - rack);
        }
        for (int place = 0; place < 6; place++) {
            x.take(0, 0, 0, place);
            Due.due("count(1)", x.count(1), 5 - place);
        }
        Due.due("count(2)", x.count(2), 3);
    }

    private static void promise18CountOfItems() {
        Due.by("3 and k: how many ITEMS the ROW of PLACE k has (k 0 .. 7; BAD without one);");
        for (int place = 0; place < 8; place++) {
            TideGauges x = new TideGauges();
            Due.due("count without a ROW", x.count(3 + place), Due.BAD);
            for (int n = 0; n <= 12; n++) {
                x.row(place, n % 2 == 0, n);
                Due.due("count of " + n, x.count(3 + place), n);
            }
            x.clear(place);
            Due.due("count without a ROW any more", x.count(3 + place), Due.BAD);
        }
    }

    private static void promise18CountOfKinds() {
        Due.by("11 and k: the KIND of the GAUGE of PLACE k (k 0 .. 5; BAD).");
        for (int place = 0; place < 6; place++) {
            TideGauges x = new TideGauges();
            x.rack(0, 0);
            Due.due("count without a GAUGE", x.count(11 + place), Due.BAD);
            for (int kind = 0; kind < 3; kind++) {
                x.gauge(place, kind, Due.d(1));
                Due.due("count of KIND " + kind, x.count(11 + place), kind);
            }
            x.take(0, 0, 0, place);
            Due.due("count without a GAUGE any more", x.count(11 + place), Due.BAD);
        }
    }

    /** 10 is the last PLACE of ROWS, 11 the first of GAUGES, 16 the last; 2 are RACKS, 17 is nothing. */
    private static void promise18CountBetween() {
        Due.by("(k 0 .. 5; BAD). BAD.");
        TideGauges x = new TideGauges();
        for (int place = 0; place < 8; place++) {
            x.row(place, true, 5 + place);
        }
        for (int place = 0; place < 6; place++) {
            x.gauge(place, Due.LONG, Due.d(1));
        }
        x.rack(2, 0);
        int[] due = {8, 6, 1, 5, 6, 7, 8, 9, 10, 11, 12, 2, 2, 2, 2, 2, 2};
        for (int what = 0; what < due.length; what++) {
            Due.due("count(" + what + ")", x.count(what), due[what]);
        }
        for (int what : new int[] {-1, 17, 18, 19, 100, Integer.MIN_VALUE, Integer.MAX_VALUE}) {
            Due.due("count(" + what + ")", x.count(what), Due.BAD);
        }
    }

    private static void promise18CountChangesNothing() {
        Due.by("What = 0 ROWS' PLACES with a ROW,");
        for (int number = -1; number < 18; number++) {
            int what = number;
            Twins.changesNothing("count(" + what + ")", x -> x.count(what));
        }
    }
}
