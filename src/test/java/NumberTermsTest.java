import java.math.BigDecimal;

/** What the "Terms" say of the REST and of what is TURNED, sentence by sentence. */
public final class NumberTermsTest {
    private static final double INF = Double.POSITIVE_INFINITY;
    private static final float FINF = Float.POSITIVE_INFINITY;
    private static final double[] SIZES = {Double.MIN_VALUE, 3 * Double.MIN_VALUE, 1e-310, 0x0.fffffffffffffp-1022,
        Double.MIN_NORMAL, 0x1.0000000000001p-1022, 1e-300, 0.1, 0.3, 1, 1.0000000000000002, 2.5, 3, 7, 12.5, 1e16,
        9007199254740991.0, 9007199254740993.0, 1e22, 1e300, 0x1p1023, 0x1.ffffffffffffep1023, Double.MAX_VALUE};
    private static final float[] FLOAT_SIZES = {Float.MIN_VALUE, 3 * Float.MIN_VALUE, 1e-40f, 0x0.fffffep-126f,
        Float.MIN_NORMAL, 0x1.000002p-126f, 1e-30f, 0.1f, 0.3f, 1, 1.0000001f, 2.5f, 3, 7, 12.5f, 16777215f, 16777216f,
        1e10f, 1e30f, 0x1p127f, 0x1.fffffcp127f, Float.MAX_VALUE};

    public static void main(String[] args) {
        theRestIsExact();
        theRestOfFloatsIsExact();
        theRestHasTheSignOfX();
        theRestByEndlessIsX();
        theRestIsNoNumber();
        anIntIsCutTowards0();
        aLongIsCutTowards0();
        beyondTheGreatestInt();
        beyondTheGreatestLong();
        aByteIsOfTheInt();
        aShortIsOfTheInt();
        aCharIsOfTheInt();
        theNearestFloat();
        theEvenFloatOfTwo();
        beyondTheGreatestFloat();
        belowTheLeastFloat();
        aFloatStaysOne();
        aDouble();
        Due.end();
    }

    private static void restIs(double x, double y, double want) {
        TideGauges t = Due.wideRow(x, y);
        Due.tells("rest of " + x + " by " + y, t, t.rest(0, true, 0, 1), Due.d(want));
    }

    private static void restOfFloatsIs(float x, float y, float want) {
        TideGauges t = Due.narrowRow(x, y);
        Due.tells("rest of " + x + "f by " + y + "f", t, t.rest(0, false, 0, 1), Due.f(want));
    }

    private static double exactRest(double x, double y) {
        return new BigDecimal(x).remainder(new BigDecimal(y)).doubleValue();
    }

    private static void theRestIsExact() {
        Due.by("x less y as often as that goes towards 0, exactly;");
        for (double x : SIZES) {
            for (double y : SIZES) {
                restIs(x, y, exactRest(x, y));
            }
        }
        restIs(5, 5, 0.0);
        restIs(Math.nextDown(5.0), 5, Math.nextDown(5.0));
        restIs(Math.nextUp(5.0), 5, 0x1p-50);
        restIs(Double.MIN_VALUE, Double.MIN_VALUE, 0.0);
        restIs(Double.MAX_VALUE, Double.MAX_VALUE, 0.0);
        restIs(1, Double.MAX_VALUE, 1);
    }

    private static void theRestOfFloatsIsExact() {
        Due.by("The REST of x by y (two of one width): x less y as often as that goes towards 0, exactly;");
        for (float x : FLOAT_SIZES) {
            for (float y : FLOAT_SIZES) {
                restOfFloatsIs(x, y, (float) exactRest(x, y));
            }
        }
        restOfFloatsIs(Math.nextDown(5f), 5, Math.nextDown(5f));
        restOfFloatsIs(Math.nextUp(5f), 5, 0x1p-21f);
        restOfFloatsIs(1, Float.MAX_VALUE, 1);
    }

    private static void theRestHasTheSignOfX() {
        Due.by("of x's sign (also 0.0 and -0.0);");
        for (double sign : new double[] {1, -1}) {
            restIs(7, sign * 3, 1);
            restIs(-7, sign * 3, -1);
            restIs(6, sign * 3, 0.0);
            restIs(-6, sign * 3, -0.0);
            restIs(0.0, sign * 3, 0.0);
            restIs(-0.0, sign * 3, -0.0);
            restIs(2, sign * 3, 2);
            restIs(-2, sign * 3, -2);
            restOfFloatsIs(7, (float) sign * 3, 1);
            restOfFloatsIs(-7, (float) sign * 3, -1);
            restOfFloatsIs(6, (float) sign * 3, 0.0f);
            restOfFloatsIs(-6, (float) sign * 3, -0.0f);
            restOfFloatsIs(0.0f, (float) sign * 3, 0.0f);
            restOfFloatsIs(-0.0f, (float) sign * 3, -0.0f);
        }
    }

    private static void theRestByEndlessIsX() {
        Due.by("x itself, if y is ENDLESS.");
        for (double y : new double[] {INF, -INF}) {
            for (double x : new double[] {0.0, -0.0, 1.5, -1.5, Double.MIN_VALUE, Double.MAX_VALUE, -Double.MAX_VALUE}) {
                restIs(x, y, x);
            }
            for (float x : new float[] {0.0f, -0.0f, 1.5f, -1.5f, Float.MIN_VALUE, Float.MAX_VALUE, -Float.MAX_VALUE}) {
                restOfFloatsIs(x, (float) y, x);
            }
        }
    }

    private static void restIsNoNumber(double x, double y) {
        TideGauges t = Due.wideRow(x, y, 44);
        t.get(0, true, 2);
        Due.refuses("rest of " + x + " by " + y, t, Due.d(44), t.rest(0, true, 0, 1), Due.NO_NUMBER);
        Due.tells("its ITEM", t, t.get(0, true, 0), Due.d(x));
        TideGauges u = Due.narrowRow((float) x, (float) y, 44);
        u.get(0, false, 2);
        Due.refuses("rest of " + x + "f by " + y + "f", u, Due.f(44), u.rest(0, false, 0, 1), Due.NO_NUMBER);
        Due.tells("its ITEM", u, u.get(0, false, 0), Due.f((float) x));
    }

    private static void theRestIsNoNumber() {
        Due.by("NO NUMBER: y is 0, or x ENDLESS.");
        for (double zero : new double[] {0.0, -0.0}) {
            for (double x : new double[] {0.0, -0.0, 1, -1, INF, -INF}) {
                restIsNoNumber(x, zero);
            }
        }
        for (double x : new double[] {INF, -INF}) {
            for (double y : new double[] {1, -1, 3.0e38, INF, -INF}) {
                restIsNoNumber(x, y);
            }
        }
        restIs(1, Double.MIN_VALUE, 0.0);
        restOfFloatsIs(1, Float.MIN_VALUE, 0.0f);
    }

    private static void turnIs(double x, int to, long want) {
        TideGauges t = Due.wideRow(x);
        Due.tells("turn of " + x + " into " + to, t, t.turn(0, true, 0, to), want);
        Due.tells("its ITEM", t, t.get(0, true, 0), Due.d(x));
    }

    private static void turnOfFloatIs(float x, int to, long want) {
        TideGauges t = Due.narrowRow(x);
        Due.tells("turn of " + x + "f into " + to, t, t.turn(0, false, 0, to), want);
        Due.tells("its ITEM", t, t.get(0, false, 0), Due.f(x));
    }

    /** Of a number that is a float as well. */
    private static void turnOfBothIs(float x, int to, long want) {
        turnIs(x, to, want);
        turnOfFloatIs(x, to, want);
    }

    private static void anIntIsCutTowards0() {
        Due.by("3 an int, 4 a long: cut towards 0,");
        for (int to : new int[] {3, 4}) {
            turnOfBothIs(0.0f, to, 0);
            turnOfBothIs(-0.0f, to, 0);
            turnOfBothIs(0.5f, to, 0);
            turnOfBothIs(-0.5f, to, 0);
            turnOfBothIs(0x1.fffffep-1f, to, 0);
            turnOfBothIs(-0x1.fffffep-1f, to, 0);
            turnOfBothIs(1, to, 1);
            turnOfBothIs(-1, to, -1);
            turnOfBothIs(1.5f, to, 1);
            turnOfBothIs(-1.5f, to, -1);
            turnOfBothIs(2.75f, to, 2);
            turnOfBothIs(-2.75f, to, -2);
            turnOfBothIs(Float.MIN_VALUE, to, 0);
            turnOfBothIs(8388607.5f, to, 8388607);
            turnOfBothIs(-8388607.5f, to, -8388607);
            turnIs(Math.nextDown(1.0), to, 0);
            turnIs(-Double.MIN_VALUE, to, 0);
            turnIs(123456789.99, to, 123456789);
        }
    }

    private static void aLongIsCutTowards0() {
        Due.by("4 a long: cut towards 0,");
        turnIs(2147483648.5, 4, 2147483648L);
        turnIs(-2147483649.5, 4, -2147483649L);
        turnIs(4503599627370495.5, 4, 4503599627370495L);
        turnIs(-4503599627370495.5, 4, -4503599627370495L);
        turnIs(9007199254740993.0, 4, 9007199254740992L);
        turnOfFloatIs(2147483648f, 4, 2147483648L);
        turnOfFloatIs(-1e18f, 4, -999999984306749440L);
    }

    private static void beyondTheGreatestInt() {
        Due.by("3 an int, 4 a long: cut towards 0, what is beyond the greatest, the least;");
        turnIs(2147483647.0, 3, 2147483647);
        turnIs(2147483647.9, 3, 2147483647);
        turnIs(2147483646.9, 3, 2147483646);
        turnIs(-2147483648.0, 3, -2147483648);
        turnIs(-2147483647.9, 3, -2147483647);
        turnIs(-2147483648.9, 3, -2147483648);
        turnIs(-2147483649.0, 3, -2147483648);
        turnIs(Double.MAX_VALUE, 3, 2147483647);
        turnIs(-Double.MAX_VALUE, 3, -2147483648);
        turnOfBothIs(2147483520f, 3, 2147483520);
        turnOfBothIs(2147483648f, 3, 2147483647);
        turnOfBothIs(4294967296f, 3, 2147483647);
        turnOfBothIs(-2147483648f, 3, -2147483648);
        turnOfBothIs(-2147483904f, 3, -2147483648);
        turnOfBothIs(9223372036854775808f, 3, 2147483647);
        turnOfBothIs(-9223372036854775808f, 3, -2147483648);
        turnOfBothIs(-Float.MAX_VALUE, 3, -2147483648);
        turnOfBothIs(FINF, 3, 2147483647);
        turnOfBothIs(-FINF, 3, -2147483648);
    }

    private static void beyondTheGreatestLong() {
        Due.by("4 a long: cut towards 0, what is beyond the greatest, the least;");
        turnIs(9223372036854774784.0, 4, 9223372036854774784L);
        turnIs(-9223372036854774784.0, 4, -9223372036854774784L);
        turnIs(-9223372036854777856.0, 4, Long.MIN_VALUE);
        turnIs(Double.MAX_VALUE, 4, Long.MAX_VALUE);
        turnIs(-Double.MAX_VALUE, 4, Long.MIN_VALUE);
        turnOfBothIs(9223371487098961920f, 4, 9223371487098961920L);
        turnOfBothIs(-9223371487098961920f, 4, -9223371487098961920L);
        turnOfBothIs(9223372036854775808f, 4, Long.MAX_VALUE);
        turnOfBothIs(-9223372036854775808f, 4, Long.MIN_VALUE);
        turnOfBothIs(-9223373136366403584f, 4, Long.MIN_VALUE);
        turnOfBothIs(18446744073709551616f, 4, Long.MAX_VALUE);
        turnOfBothIs(Float.MAX_VALUE, 4, Long.MAX_VALUE);
        turnOfBothIs(FINF, 4, Long.MAX_VALUE);
        turnOfBothIs(-FINF, 4, Long.MIN_VALUE);
    }

    private static void aByteIsOfTheInt() {
        Due.by("0 a byte, 1 a short, 2 a char: of the int the lowest bits;");
        turnOfBothIs(127.5f, 0, 127);
        turnOfBothIs(128, 0, -128);
        turnOfBothIs(255, 0, -1);
        turnOfBothIs(256, 0, 0);
        turnOfBothIs(-128.5f, 0, -128);
        turnOfBothIs(-129, 0, 127);
        turnOfBothIs(-0.5f, 0, 0);
        turnOfBothIs(65535, 0, -1);
        turnIs(2147483647.5, 0, -1);
        // Of the greatest int and of the least, not of the long.
        turnOfBothIs(4294967296f, 0, -1);
        turnOfBothIs(-4294967296f, 0, 0);
        turnIs(4294967301.0, 0, -1);
        turnIs(-4294967301.0, 0, 0);
        turnOfBothIs(FINF, 0, -1);
        turnOfBothIs(-FINF, 0, 0);
    }

    private static void aShortIsOfTheInt() {
        Due.by("1 a short");
        turnOfBothIs(32767.5f, 1, 32767);
        turnOfBothIs(32768, 1, -32768);
        turnOfBothIs(65535, 1, -1);
        turnOfBothIs(65536, 1, 0);
        turnOfBothIs(-32768.5f, 1, -32768);
        turnOfBothIs(-32769, 1, 32767);
        turnOfBothIs(-1.5f, 1, -1);
        turnOfBothIs(4294967296f, 1, -1);
        turnOfBothIs(-4294967296f, 1, 0);
        turnIs(4294967301.0, 1, -1);
        turnIs(-4294967301.0, 1, 0);
        turnOfBothIs(FINF, 1, -1);
        turnOfBothIs(-FINF, 1, 0);
    }

    private static void aCharIsOfTheInt() {
        Due.by("2 a char: of the int the lowest bits;");
        turnOfBothIs(32768.5f, 2, 32768);
        turnOfBothIs(65535.5f, 2, 65535);
        turnOfBothIs(65536, 2, 0);
        turnOfBothIs(-1, 2, 65535);
        turnOfBothIs(-0.5f, 2, 0);
        turnOfBothIs(-65536, 2, 0);
        turnOfBothIs(-65537, 2, 65535);
        turnOfBothIs(4294967296f, 2, 65535);
        turnOfBothIs(-4294967296f, 2, 0);
        turnIs(4294967301.0, 2, 65535);
        turnIs(-4294967301.0, 2, 0);
        turnOfBothIs(FINF, 2, 65535);
        turnOfBothIs(-FINF, 2, 0);
    }

    /** With either sign. */
    private static void floatOfIs(double x, float want) {
        turnIs(x, 5, Due.f(want));
        turnIs(-x, 5, Due.f(-want));
    }

    private static void theNearestFloat() {
        Due.by("5 a float: the nearest one");
        floatOfIs(0.0, 0.0f);
        floatOfIs(0.1, 0x1.99999ap-4f);
        floatOfIs(0x1.000000fffffffp0, 1);
        floatOfIs(0x1.0000010000001p0, 0x1.000002p0f);
        floatOfIs(0x1.000002fffffffp0, 0x1.000002p0f);
        floatOfIs(0x1.0000030000001p0, 0x1.000004p0f);
        floatOfIs(0x1.fffffefffffffp0, 0x1.fffffep0f);
        floatOfIs(Math.nextDown(2.0), 2);
        floatOfIs(0x1.fffffdp-127, 0x1.fffffcp-127f);
    }

    private static void theEvenFloatOfTwo() {
        Due.by("(of two the even one; beyond: ENDLESS)");
        floatOfIs(0x1.000001p0, 1);
        floatOfIs(0x1.000003p0, 0x1.000004p0f);
        floatOfIs(0x1.000005p0, 0x1.000004p0f);
        floatOfIs(0x1.ffffffp0, 2);
        floatOfIs(16777217, 16777216);
        floatOfIs(16777219, 16777220);
        floatOfIs(0x1.8p-149, 0x1p-148f);
        floatOfIs(0x1.4p-148, 0x1p-148f);
        floatOfIs(0x1.cp-148, 0x1p-147f);
        floatOfIs(0x1.fffffep-127, Float.MIN_NORMAL);
    }

    private static void beyondTheGreatestFloat() {
        Due.by("beyond: ENDLESS");
        floatOfIs(0x1.fffffep127, Float.MAX_VALUE);
        floatOfIs(0x1.fffffefffffffp127, Float.MAX_VALUE);
        floatOfIs(0x1.ffffffp127, FINF);
        floatOfIs(0x1.ffffff0000001p127, FINF);
        floatOfIs(0x1p128, FINF);
        floatOfIs(1e300, FINF);
        floatOfIs(Double.MAX_VALUE, FINF);
        floatOfIs(INF, FINF);
    }

    private static void belowTheLeastFloat() {
        Due.by("5 a float: the nearest one (of two the even one;");
        floatOfIs(0x1p-149, Float.MIN_VALUE);
        floatOfIs(Math.nextUp(0x1p-150), Float.MIN_VALUE);
        floatOfIs(0x1p-150, 0.0f);
        floatOfIs(Math.nextDown(0x1p-150), 0.0f);
        floatOfIs(0x1p-151, 0.0f);
        floatOfIs(Double.MIN_NORMAL, 0.0f);
        floatOfIs(Double.MIN_VALUE, 0.0f);
    }

    private static void aFloatStaysOne() {
        Due.by("5 a float: the nearest one");
        for (float x : FLOAT_SIZES) {
            turnOfFloatIs(x, 5, Due.f(x));
            turnOfFloatIs(-x, 5, Due.f(-x));
            turnIs(x, 5, Due.f(x));
        }
        for (float x : new float[] {0.0f, -0.0f, FINF, -FINF}) {
            turnOfFloatIs(x, 5, Due.f(x));
        }
    }

    private static void aDouble() {
        Due.by("6 a double.");
        for (double x : SIZES) {
            turnIs(x, 6, Due.d(x));
            turnIs(-x, 6, Due.d(-x));
        }
        for (double x : new double[] {0.0, -0.0, INF, -INF}) {
            turnIs(x, 6, Due.d(x));
            turnOfFloatIs((float) x, 6, Due.d(x));
        }
        turnOfFloatIs(Float.MIN_VALUE, 6, Due.d(0x1p-149));
        turnOfFloatIs(-Float.MIN_VALUE, 6, Due.d(-0x1p-149));
        turnOfFloatIs(0x0.fffffep-126f, 6, Due.d(0x1.fffffcp-127));
        turnOfFloatIs(Float.MIN_NORMAL, 6, Due.d(0x1p-126));
        turnOfFloatIs(Float.MAX_VALUE, 6, Due.d(0x1.fffffep127));
        turnOfFloatIs(0.1f, 6, Due.d(0x1.99999ap-4));
    }
}
