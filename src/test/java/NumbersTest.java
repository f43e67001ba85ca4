import java.math.BigDecimal;
import java.math.BigInteger;
import java.util.Random;

/** Part 4, the instructions 0x45 .. 0xBF, with every answer reckoned by Java's own numbers, too. */
public final class NumbersTest {
    private static final int I = Kit.I;
    private static final int L = Kit.L;
    private static final int F = Kit.F;
    private static final int D = Kit.D;
    private static final long NAN_F = 0x7FC00000L;
    private static final long NAN_D = 0x7FF8000000000000L;
    private static final long TRAP = Calculator.TRAP;
    private static final long MASK = 0xFFFFFFFFL;
    private static final int TURNS = 1500;

    private static final long[] WHOLE = {0, 1, 2, 3, 31, 32, 33, 63, 64, 65, 127, 128, 255, 0x7FFF, 0x8000, 0xFFFF,
        0x7FFFFFFF, 0x80000000L, 0x80000001L, 0xFFFFFFFFL, 0x100000000L, 0x1000001L, 0x1000003L, -1, -2, -3, -128,
        Long.MAX_VALUE, Long.MIN_VALUE, Long.MIN_VALUE + 1, 0x20000000000001L, 0x20000000000003L, 0x7FFFFFFFFFFFFC00L,
        0x7FFFFFFFFFFFFDFFL, 0xFFFFFFFFFFFFFBFFL, 0xFFFFFF8000000000L, 0x8000000000000400L, 0x8000000000000401L,
        0x8000008000000000L, 0x8000008000000001L, 0x4000004000000001L, 0x7FFFFFBFFFFFFFFFL, 0x7FFFFFC000000000L};

    private static final double[] REAL = {0.0, 0.1, 0.25, 0.4999999999999999, 0.49999997, 0.5, 0.5000000000000001, 0.75,
        0.9, 0.9999999999999999, 1, 1.5, 2, 2.5, 3, 3.5, 4.5, 8388607.5, 8388608, 8388609, 16777215, 16777216, 16777217,
        4503599627370495.5, 4503599627370496.0, 4503599627370497.0, 9007199254740992.0, 2147483647.0, 2147483647.5,
        2147483648.0, 2147483648.9, 2147483649.0, 2147483520.0, 4294967040.0, 4294967295.0, 4294967295.9, 4294967296.0,
        9223372036854774784.0, 9223372036854775808.0, 9223371487098961920.0, 18446744073709549568.0,
        18446744073709551616.0, 18446742974197923840.0, 1e30, 1e38, 3.4028234663852886e38, 3.4028235677973366e38,
        3.4028235677973362e38, 1e300, Double.MAX_VALUE, Double.MIN_VALUE, Double.MIN_NORMAL, 2.2250738585072011e-308,
        Float.MIN_VALUE, Float.MIN_NORMAL, 1.1754942106924411e-38, 7.006492321624085e-46, 7.006492321624086e-46,
        1e-40, 1e-46, 1e-320, Double.POSITIVE_INFINITY, Double.NaN};

    private static final Random RANDOM = new Random(20261115);
    private static final Calculator CALCULATOR = new Calculator();

    public static void main(String[] args) {
        for (int op = 0x45; op <= 0xBF; op++) {
            if (Calculator.taken(op) == 1) {
                oneTaken(op, Calculator.type(op));
            } else {
                twoTaken(op, Calculator.type(op));
            }
        }
        nansArePlain();
        Kit.same("wrong()", CALCULATOR.host.wrong(), 0);
        Kit.close();
    }

    private static void oneTaken(int op, int type) {
        for (long special : specials(type)) {
            check(op, type, special, 0);
        }
        for (int k = 0; k < TURNS; k++) {
            check(op, type, anyOf(type), 0);
        }
    }

    private static void twoTaken(int op, int type) {
        for (long a : specials(type)) {
            for (long b : specials(type)) {
                check(op, type, a, b);
            }
        }
        for (int k = 0; k < TURNS; k++) {
            long a = anyOf(type);
            long b = k % 3 == 0 ? a ^ (1L << RANDOM.nextInt(type == I || type == F ? 32 : 64)) : anyOf(type);
            check(op, type, a, b);
        }
    }

    private static long[] specials(int type) {
        if (type == I || type == L) {
            return WHOLE;
        }
        long[] out = new long[2 * REAL.length];
        for (int k = 0; k < out.length; k++) {
            double d = k % 2 == 0 ? REAL[k / 2] : -REAL[k / 2];
            out[k] = type == F ? Float.floatToRawIntBits((float) d) & MASK : Double.doubleToRawLongBits(d);
        }
        return out;
    }

    private static long anyOf(int type) {
        long bits = RANDOM.nextLong();
        int way = RANDOM.nextInt(4);
        if (type == I || type == L) {
            return way == 0 ? bits >> RANDOM.nextInt(64) : way == 1 ? bits << RANDOM.nextInt(64) : bits;
        }
        if (way == 0) {
            return type == F ? bits & MASK : bits;
        }
        // Numbers of like size, often with few bits, so that sums cancel and halves come up.
        int power = RANDOM.nextInt(way == 1 ? 140 : 12) - (way == 1 ? 140 : 6);
        double d = (bits >> RANDOM.nextInt(63)) * Math.pow(2, power);
        if (way == 2) {
            d = (RANDOM.nextInt(400) - 200) * 0.25;
        }
        return type == F ? Float.floatToRawIntBits((float) d) & MASK : Double.doubleToRawLongBits(d);
    }

    private static void check(int op, int type, long a, long b) {
        long got = Calculator.taken(op) == 1 ? CALCULATOR.of(op, a) : CALCULATOR.of(op, a, b);
        String what = "0x" + Integer.toHexString(op) + " of " + Long.toHexString(a) + " and " + Long.toHexString(b);
        Kit.same(what, got, due(op, type, a, b));
    }

    private static long due(int op, int type, long a, long b) {
        if (op <= 0x66) {
            return compared(op, type, a, b) ? 1 : 0;
        }
        if (op <= 0x78) {
            return dueShort(op, (int) a, (int) b);
        }
        if (op <= 0x8A) {
            return dueLong(op, a, b);
        }
        if (op <= 0x98) {
            return dueSingle(op, a, b);
        }
        if (op <= 0xA6) {
            return dueDouble(op, a, b);
        }
        return dueConverted(op, a);
    }

    private static boolean compared(int op, int type, long a, long b) {
        if (op == 0x45) {
            return (int) a == 0;
        }
        if (op == 0x50) {
            return a == 0;
        }
        if (type == I) {
            return holdsWhole(op - 0x46, Integer.compare((int) a, (int) b), Integer.compareUnsigned((int) a, (int) b));
        }
        if (type == L) {
            return holdsWhole(op - 0x51, Long.compare(a, b), Long.compareUnsigned(a, b));
        }
        double x = type == F ? Float.intBitsToFloat((int) a) : Double.longBitsToDouble(a);
        double y = type == F ? Float.intBitsToFloat((int) b) : Double.longBitsToDouble(b);
        switch (type == F ? op - 0x5B : op - 0x61) {
            case 0: return x == y;
            case 1: return x != y;
            case 2: return x < y;
            case 3: return x > y;
            case 4: return x <= y;
            default: return x >= y;
        }
    }

    private static boolean holdsWhole(int which, int s, int u) {
        switch (which) {
            case 0: return s == 0;
            case 1: return s != 0;
            case 2: return s < 0;
            case 3: return u < 0;
            case 4: return s > 0;
            case 5: return u > 0;
            case 6: return s <= 0;
            case 7: return u <= 0;
            case 8: return s >= 0;
            default: return u >= 0;
        }
    }

    private static long dueShort(int op, int a, int b) {
        if (op >= 0x6D && op <= 0x70 && b == 0) {
            return TRAP + 3;
        }
        if (op == 0x6D && a == Integer.MIN_VALUE && b == -1) {
            return TRAP + 4;
        }
        switch (op) {
            case 0x67: return Integer.numberOfLeadingZeros(a);
            case 0x68: return Integer.numberOfTrailingZeros(a);
            case 0x69: return Integer.bitCount(a);
            case 0x6A: return a + b & MASK;
            case 0x6B: return a - b & MASK;
            case 0x6C: return a * b & MASK;
            case 0x6D: return a / b & MASK;
            case 0x6E: return Integer.divideUnsigned(a, b) & MASK;
            case 0x6F: return a % b & MASK;
            case 0x70: return Integer.remainderUnsigned(a, b) & MASK;
            case 0x71: return a & b & MASK;
            case 0x72: return (a | b) & MASK;
            case 0x73: return (a ^ b) & MASK;
            case 0x74: return a << (b & 31) & MASK;
            case 0x75: return a >> (b & 31) & MASK;
            case 0x76: return a >>> (b & 31) & MASK;
            case 0x77: return Integer.rotateLeft(a, b) & MASK;
            default: return Integer.rotateRight(a, b) & MASK;
        }
    }

    private static long dueLong(int op, long a, long b) {
        if (op >= 0x7F && op <= 0x82 && b == 0) {
            return TRAP + 3;
        }
        if (op == 0x7F && a == Long.MIN_VALUE && b == -1) {
            return TRAP + 4;
        }
        switch (op) {
            case 0x79: return Long.numberOfLeadingZeros(a);
            case 0x7A: return Long.numberOfTrailingZeros(a);
            case 0x7B: return Long.bitCount(a);
            case 0x7C: return a + b;
            case 0x7D: return a - b;
            case 0x7E: return a * b;
            case 0x7F: return a / b;
            case 0x80: return Long.divideUnsigned(a, b);
            case 0x81: return a % b;
            case 0x82: return Long.remainderUnsigned(a, b);
            case 0x83: return a & b;
            case 0x84: return a | b;
            case 0x85: return a ^ b;
            case 0x86: return a << (b & 63);
            case 0x87: return a >> (b & 63);
            case 0x88: return a >>> (b & 63);
            case 0x89: return Long.rotateLeft(a, (int) b);
            default: return Long.rotateRight(a, (int) b);
        }
    }

    private static long bits(float x) {
        return x != x ? NAN_F : Float.floatToRawIntBits(x) & MASK;
    }

    private static long bits(double x) {
        return x != x ? NAN_D : Double.doubleToRawLongBits(x);
    }

    private static double towardZero(double x) {
        return Math.copySign(Math.floor(Math.abs(x)), x);
    }

    private static long dueSingle(int op, long a, long b) {
        float x = Float.intBitsToFloat((int) a);
        float y = Float.intBitsToFloat((int) b);
        switch (op) {
            case 0x8B: return a & 0x7FFFFFFFL;
            case 0x8C: return (a ^ 0x80000000L) & MASK;
            case 0x8D: return bits((float) Math.ceil(x));
            case 0x8E: return bits((float) Math.floor(x));
            case 0x8F: return bits((float) towardZero(x));
            case 0x90: return bits((float) Math.rint(x));
            case 0x91: return bits((float) Math.sqrt(x));
            case 0x92: return bits(x + y);
            case 0x93: return bits(x - y);
            case 0x94: return bits(x * y);
            case 0x95: return bits(x / y);
            case 0x96: return bits(Math.min(x, y));
            case 0x97: return bits(Math.max(x, y));
            default: return a & 0x7FFFFFFFL | b & 0x80000000L;
        }
    }

    private static long dueDouble(int op, long a, long b) {
        double x = Double.longBitsToDouble(a);
        double y = Double.longBitsToDouble(b);
        switch (op) {
            case 0x99: return a & Long.MAX_VALUE;
            case 0x9A: return a ^ Long.MIN_VALUE;
            case 0x9B: return bits(Math.ceil(x));
            case 0x9C: return bits(Math.floor(x));
            case 0x9D: return bits(towardZero(x));
            case 0x9E: return bits(Math.rint(x));
            case 0x9F: return bits(Math.sqrt(x));
            case 0xA0: return bits(x + y);
            case 0xA1: return bits(x - y);
            case 0xA2: return bits(x * y);
            case 0xA3: return bits(x / y);
            case 0xA4: return bits(Math.min(x, y));
            case 0xA5: return bits(Math.max(x, y));
            default: return a & Long.MAX_VALUE | b & Long.MIN_VALUE;
        }
    }

    private static long dueConverted(int op, long a) {
        float x = Float.intBitsToFloat((int) a);
        double y = Double.longBitsToDouble(a);
        switch (op) {
            case 0xA7: return a & MASK;
            case 0xA8: return whole(x, 32, true);
            case 0xA9: return whole(x, 32, false);
            case 0xAA: return whole(y, 32, true);
            case 0xAB: return whole(y, 32, false);
            case 0xAC: return (int) a;
            case 0xAD: return a & MASK;
            case 0xAE: return whole(x, 64, true);
            case 0xAF: return whole(x, 64, false);
            case 0xB0: return whole(y, 64, true);
            case 0xB1: return whole(y, 64, false);
            case 0xB2: return bits((float) (int) a);
            case 0xB3: return bits((float) (a & MASK));
            case 0xB4: return bits((float) a);
            case 0xB5: return bits(unsigned(a).floatValue());
            case 0xB6: return bits((float) y);
            case 0xB7: return bits((double) (int) a);
            case 0xB8: return bits((double) (a & MASK));
            case 0xB9: return bits((double) a);
            case 0xBA: return bits(unsigned(a).doubleValue());
            case 0xBB: return bits((double) x);
            case 0xBC: case 0xBE: return a & MASK;
            default: return a;
        }
    }

    private static BigInteger unsigned(long a) {
        return new BigInteger(Long.toUnsignedString(a));
    }

    private static long whole(double x, int bits, boolean signed) {
        if (x != x) {
            return TRAP + 5;
        }
        if (Double.isInfinite(x)) {
            return TRAP + 4;
        }
        BigInteger n = new BigDecimal(x).toBigInteger();
        BigInteger least = signed ? BigInteger.ONE.shiftLeft(bits - 1).negate() : BigInteger.ZERO;
        BigInteger most = BigInteger.ONE.shiftLeft(signed ? bits - 1 : bits).subtract(BigInteger.ONE);
        if (n.compareTo(least) < 0 || n.compareTo(most) > 0) {
            return TRAP + 4;
        }
        return bits == 32 ? n.longValue() & MASK : n.longValue();
    }

    /** NaNs with other bits: kept by what changes the sign alone, made plain by all others. */
    private static void nansArePlain() {
        long[] nansF = {0x7F800001L, 0x7FC00001L, 0x7FFFFFFFL, 0xFF800001L, 0xFFC00000L, 0xFFFFFFFFL, 0x7FA12345L};
        long[] nansD = {0x7FF0000000000001L, 0x7FF8000000000001L, -1L, 0xFFF0000000000001L, 0xFFF8000000000000L};
        for (int op = 0x8B; op <= 0x98; op++) {
            for (long nan : nansF) {
                check(op, F, nan, 0x3F800000L);
                check(op, F, 0x3F800000L, nan);
                check(op, F, nan, nan);
            }
        }
        for (int op = 0x99; op <= 0xA6; op++) {
            for (long nan : nansD) {
                check(op, D, nan, 0x3FF0000000000000L);
                check(op, D, 0x3FF0000000000000L, nan);
                check(op, D, nan, nan);
            }
        }
        for (int op = 0x5B; op <= 0x60; op++) {
            check(op, F, 0x7FA12345L, 0x7FA12345L);
        }
        for (long nan : nansF) {
            check(0xBB, F, nan, 0);
            check(0xBC, F, nan, 0);
            check(0xBE, I, nan, 0);
            check(0xA8, F, nan, 0);
        }
        for (long nan : nansD) {
            check(0xB6, D, nan, 0);
            check(0xBD, D, nan, 0);
            check(0xBF, L, nan, 0);
            check(0xB1, D, nan, 0);
        }
    }
}
