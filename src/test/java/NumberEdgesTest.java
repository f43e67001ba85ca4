/** Part 4 of the terms, sentence by sentence: what 0x45 .. 0xBF answer at the edges, with the answers written out. */
public final class NumberEdgesTest {
    private static final long MASK = 0xFFFFFFFFL;
    private static final long LEAST_I = 0x80000000L;
    private static final long MOST_I = 0x7FFFFFFFL;
    private static final long LEAST_L = Long.MIN_VALUE;
    private static final long MOST_L = Long.MAX_VALUE;
    private static final long MINUS_I = MASK;
    private static final long NAN_F = 0x7FC00000L;
    private static final long NAN_D = 0x7FF8000000000000L;
    private static final long[] NANS_F = {0x7F800001L, 0x7FC00000L, 0x7FC00001L, 0x7FFFFFFFL, 0xFF800001L, 0xFFC00000L,
            MASK};
    private static final long[] NANS_D = {0x7FF0000000000001L, 0x7FF8000000000000L, 0x7FF8000000000001L, MOST_L,
        0xFFF0000000000001L, 0xFFF8000000000000L, -1L};
    private static final long TRAP = Calculator.TRAP;
    private static final Calculator C = new Calculator();

    public static void main(String[] args) {
        keptAsBits();
        toTheNearest();
        nansThatAreMade();
        signsAlone();
        isZero();
        compareWhole();
        compareFloating();
        bitsOfAll();
        wrapAround();
        quotients();
        shifts();
        divisionTraps();
        wholeNumbers();
        roots();
        lesserAndGreater();
        longAndShort();
        towardZero();
        nothingToTruncate();
        fromWhole();
        betweenFormats();
        bitsAsTheyAre();
        Kit.close();
    }

    private static void is(int op, long due, long... numbers) {
        StringBuilder what = new StringBuilder("0x").append(Integer.toHexString(op));
        for (long number : numbers) {
            what.append(' ').append(Long.toHexString(number));
        }
        Kit.same(what.toString(), C.of(op, numbers), due);
    }

    private static long f(double number) {
        return Float.floatToRawIntBits((float) number) & MASK;
    }

    private static long d(double number) {
        return Double.doubleToRawLongBits(number);
    }

    /** Of F and of D: the instruction of D is 0x0E further. */
    private static void both(int op, double due, double... numbers) {
        long[] single = new long[numbers.length];
        long[] twice = new long[numbers.length];
        for (int k = 0; k < numbers.length; k++) {
            single[k] = f(numbers[k]);
            twice[k] = d(numbers[k]);
        }
        is(op, f(due), single);
        is(op + 0x0E, d(due), twice);
    }

    private static void keptAsBits() {
        Kit.sentence("Numbers of types I and L are kept as bits; they are read with a sign (s) or without (u).");
        is(0x48, 1, MINUS_I, 0);
        is(0x49, 0, MINUS_I, 0);
        is(0x53, 1, -1, 0);
        is(0x54, 0, -1, 0);
        is(0x6A, MINUS_I, MINUS_I, 0);
        is(0x7C, -1, -1, 0);
        // Of an argument of I the lowest 32 bits.
        is(0x6A, 3, 0x1234567800000001L, 0x7FFFFFFF00000002L);
        is(0x45, 1, 0x100000000L);
    }

    private static void toTheNearest() {
        Kit.sentence("results to the nearest, of two the even one");
        // 1 and half of the last place, or a little more; an odd number and half of its last place.
        is(0x92, 0x3F800000L, 0x3F800000L, 0x33800000L);
        is(0x92, 0x3F800001L, 0x3F800000L, 0x33800001L);
        is(0x92, 0x3F800002L, 0x3F800001L, 0x33800000L);
        is(0xA0, 0x3FF0000000000000L, 0x3FF0000000000000L, 0x3CA0000000000000L);
        is(0xA0, 0x3FF0000000000001L, 0x3FF0000000000000L, 0x3CA0000000000001L);
        is(0xA0, 0x3FF0000000000002L, 0x3FF0000000000001L, 0x3CA0000000000000L);
        // The greatest: half a place more is too much, anything less is not.
        is(0x92, 0x7F800000L, 0x7F7FFFFFL, 0x73000000L);
        is(0x92, 0x7F7FFFFFL, 0x7F7FFFFFL, 0x72FFFFFFL);
        is(0x94, 0x7F800000L, 0x7F7FFFFFL, 0x40000000L);
        is(0xA0, 0x7FF0000000000000L, 0x7FEFFFFFFFFFFFFFL, 0x7C90000000000000L);
        is(0xA0, 0x7FEFFFFFFFFFFFFFL, 0x7FEFFFFFFFFFFFFFL, 0x7C8FFFFFFFFFFFFFL);
        // The smallest: half of it is the even one, 0; three quarters are not.
        is(0x94, 0, 1, 0x3F000000L);
        is(0x94, 1, 1, 0x3F400000L);
        is(0x94, 2, 3, 0x3F000000L);
        is(0x94, 0x80000000L, 1, 0xBF000000L);
        is(0xA2, 0, 1, 0x3FE0000000000000L);
        is(0xA2, 1, 1, 0x3FE8000000000000L);
        is(0xA2, 2, 3, 0x3FE0000000000000L);
        is(0x95, 0x3EAAAAABL, 0x3F800000L, 0x40400000L);
        is(0xA3, 0x3FD5555555555555L, 0x3FF0000000000000L, 0x4008000000000000L);
        is(0x93, 1, 0x00800000L, 0x007FFFFFL);
        is(0xA1, 1, 0x0010000000000000L, 0x000FFFFFFFFFFFFFL);
    }

    private static void nansThatAreMade() {
        Kit.sentence("Each NaN that an instruction of 0x8D .. 0x98, 0x9B .. 0xA6, 0xB6 and 0xBB makes (all but abs, "
                + "neg and copysign, which change the sign bit alone) is 0x7FC00000, or 0x7FF8000000000000.");
        for (long nan : NANS_F) {
            for (int op = 0x8D; op <= 0x91; op++) {
                is(op, NAN_F, nan);
            }
            for (int op = 0x92; op <= 0x97; op++) {
                is(op, NAN_F, nan, f(1));
                is(op, NAN_F, f(1), nan);
                is(op, NAN_F, nan, nan);
            }
            is(0xBB, NAN_D, nan);
        }
        for (long nan : NANS_D) {
            for (int op = 0x9B; op <= 0x9F; op++) {
                is(op, NAN_D, nan);
            }
            for (int op = 0xA0; op <= 0xA5; op++) {
                is(op, NAN_D, nan, d(1));
                is(op, NAN_D, d(1), nan);
                is(op, NAN_D, nan, nan);
            }
            is(0xB6, NAN_F, nan);
        }
        double many = Double.POSITIVE_INFINITY;
        double[][] none = {{many, -many, 0}, {many, many, 1}, {many, 0, 2}, {-0.0, -many, 2}, {0, 0, 3}, {-0.0, 0, 3},
                {many, many, 3}, {many, -many, 3}};
        for (double[] row : none) {
            is(0x92 + (int) row[2], NAN_F, f(row[0]), f(row[1]));
            is(0xA0 + (int) row[2], NAN_D, d(row[0]), d(row[1]));
        }
    }

    private static void signsAlone() {
        Kit.sentence("(all but abs, neg and copysign, which change the sign bit alone)");
        for (long number : new long[] {0x7F800001L, 0xFF800001L, 0xFFFFFFFFL, 0x7FC00000L, 0, 0x80000000L, 0x3F800000L,
                0xBF800000L}) {
            is(0x8B, number & MOST_I, number);
            is(0x8C, number ^ LEAST_I, number);
            is(0x98, number & MOST_I, number, f(2));
            is(0x98, number | LEAST_I, number, f(-2));
            is(0x98, number | LEAST_I, number, 0xFF800001L);
        }
        for (long number : new long[] {0x7FF0000000000001L, 0xFFF0000000000001L, -1L, NAN_D, 0, LEAST_L, d(1), d(-1)}) {
            is(0x99, number & MOST_L, number);
            is(0x9A, number ^ LEAST_L, number);
            is(0xA6, number & MOST_L, number, 0);
            is(0xA6, number | LEAST_L, number, LEAST_L);
        }
    }

    private static void isZero() {
        Kit.sentence("0x45 (I), 0x50 (L): 1 if a is 0, else 0.");
        is(0x45, 1, 0);
        is(0x45, 0, 1);
        is(0x45, 0, LEAST_I);
        is(0x50, 1, 0);
        is(0x50, 0, 1);
        is(0x50, 0, 0x100000000L);
        is(0x50, 0, LEAST_L);
    }

    private static void compareWhole() {
        Kit.sentence("0x46 .. 0x4F of I and 0x51 .. 0x5A of L: =, not =, < s, < u, > s, > u, <= s, <= u, >= s, >= u");
        // For the least and the most, the same twice, and -1 and 0.
        int[][] due = {{0, 1, 1, 0, 0, 1, 1, 0, 0, 1}, {1, 0, 0, 0, 0, 0, 1, 1, 1, 1}, {0, 1, 1, 0, 0, 1, 1, 0, 0, 1},
            {0, 1, 1, 1, 0, 0, 1, 1, 0, 0}};
        long[][] shorts = {{LEAST_I, MOST_I}, {LEAST_I, LEAST_I}, {MINUS_I, 0}, {5, 6}};
        long[][] longs = {{LEAST_L, MOST_L}, {LEAST_L, LEAST_L}, {-1, 0}, {0xFFFFFFFFL, 0x100000000L}};
        for (int row = 0; row < due.length; row++) {
            for (int k = 0; k < 10; k++) {
                is(0x46 + k, due[row][k], shorts[row]);
                is(0x51 + k, due[row][k], longs[row]);
            }
        }
    }

    private static void compareFloating() {
        Kit.sentence("=, not =, <, >, <=, >= (with a NaN: not = alone is 1; 0 and -0 are equal)");
        int[] equal = {1, 0, 0, 0, 1, 1};
        int[] less = {0, 1, 1, 0, 1, 0};
        int[] more = {0, 1, 0, 1, 0, 1};
        double most = Double.POSITIVE_INFINITY;
        for (int k = 0; k < 6; k++) {
            for (int n = 0; n < NANS_F.length; n++) {
                is(0x5B + k, k == 1 ? 1 : 0, NANS_F[n], f(1));
                is(0x5B + k, k == 1 ? 1 : 0, f(1), NANS_F[n]);
                is(0x5B + k, k == 1 ? 1 : 0, NANS_F[n], NANS_F[n]);
                is(0x61 + k, k == 1 ? 1 : 0, NANS_D[n], d(1));
                is(0x61 + k, k == 1 ? 1 : 0, d(1), NANS_D[n]);
                is(0x61 + k, k == 1 ? 1 : 0, NANS_D[n], NANS_D[n]);
            }
            double[][] pairs = {{0, -0.0}, {-0.0, 0}, {most, most}, {-most, -most}, {-1, -1}};
            for (double[] pair : pairs) {
                is(0x5B + k, equal[k], f(pair[0]), f(pair[1]));
                is(0x61 + k, equal[k], d(pair[0]), d(pair[1]));
            }
            double[][] rising = {{-most, most}, {-2, -1}, {-1, 1}, {1, 2}, {1e30, most}, {-1e-40, 0}, {-0.0, 1e-40}};
            for (double[] pair : rising) {
                is(0x5B + k, less[k], f(pair[0]), f(pair[1]));
                is(0x61 + k, less[k], d(pair[0]), d(pair[1]));
                is(0x5B + k, more[k], f(pair[1]), f(pair[0]));
                is(0x61 + k, more[k], d(pair[1]), d(pair[0]));
            }
        }
    }

    private static void bitsOfAll() {
        Kit.sentence("how many bits 0 there are above the highest 1, below the lowest 1 (of 0: all), how many 1s");
        is(0x67, 32, 0);
        is(0x68, 32, 0);
        is(0x69, 0, 0);
        is(0x79, 64, 0);
        is(0x7A, 64, 0);
        is(0x7B, 0, 0);
        for (int k = 0; k < 32; k++) {
            is(0x67, 31 - k, 1L << k);
            is(0x67, 31 - k, (1L << k) | 1);
            is(0x68, k, 1L << k);
            is(0x68, k, MASK << k & MASK);
            is(0x69, k + 1, (2L << k) - 1);
        }
        for (int k = 0; k < 64; k++) {
            is(0x79, 63 - k, 1L << k);
            is(0x79, 63 - k, 1L << k | 1);
            is(0x7A, k, 1L << k);
            is(0x7A, k, -1L << k);
            is(0x7B, 64 - k, -1L << k);
        }
    }

    private static void wrapAround() {
        Kit.sentence("0x6A .. 0x78 of I and 0x7C .. 0x8A of L: +, -, *");
        is(0x6A, LEAST_I, MOST_I, 1);
        is(0x6A, 0, MINUS_I, 1);
        is(0x6B, MOST_I, LEAST_I, 1);
        is(0x6B, MINUS_I, 0, 1);
        is(0x6C, 0, 0x10000, 0x10000);
        is(0x6C, 1, MINUS_I, MINUS_I);
        is(0x6C, LEAST_I, LEAST_I, MINUS_I);
        is(0x7C, LEAST_L, MOST_L, 1);
        is(0x7C, 0, -1, 1);
        is(0x7C, 0x100000000L, 0xFFFFFFFFL, 1);
        is(0x7D, MOST_L, LEAST_L, 1);
        is(0x7D, -1, 0, 1);
        is(0x7E, 0, 1L << 32, 1L << 32);
        is(0x7E, 1, -1, -1);
        is(0x7E, LEAST_L, LEAST_L, -1);
    }

    private static void quotients() {
        Kit.sentence("/ s, / u, remainder s, remainder u (of / that rounds to 0; with the sign of a)");
        long[][] rows = {{7, 2, 3, 1}, {-7, 2, -3, -1}, {7, -2, -3, 1}, {-7, -2, 3, -1}, {1, 2, 0, 1}, {-1, 2, 0, -1},
                {0, 5, 0, 0}};
        for (long[] row : rows) {
            is(0x6D, row[2] & MASK, row[0] & MASK, row[1] & MASK);
            is(0x6F, row[3] & MASK, row[0] & MASK, row[1] & MASK);
            is(0x7F, row[2], row[0], row[1]);
            is(0x81, row[3], row[0], row[1]);
        }
        is(0x6E, MOST_I, MINUS_I, 2);
        is(0x6E, 0, MOST_I, MINUS_I);
        is(0x6E, 0, LEAST_I, MINUS_I);
        is(0x6E, 1, MINUS_I, LEAST_I);
        is(0x70, 1, MINUS_I, 2);
        is(0x70, LEAST_I, LEAST_I, MINUS_I);
        is(0x70, MOST_I, MINUS_I, LEAST_I);
        is(0x80, MOST_L, -1, 2);
        is(0x80, 0, LEAST_L, -1);
        is(0x80, 1, -1, LEAST_L);
        is(0x80, 1, -1, -1);
        is(0x80, 0x1999999999999999L, -1, 10);
        is(0x82, 1, -1, 2);
        is(0x82, LEAST_L, LEAST_L, -1);
        is(0x82, MOST_L, -1, LEAST_L);
        is(0x82, 5, -1, 10);
    }

    private static void shifts() {
        Kit.sentence("shift left, shift right s, shift right u, rotate left, rotate right; by b modulo 32, or 64");
        for (long by : new long[] {1, 33, 0x80000001L, 0xFFFFFFE1L, 0x21}) {
            is(0x74, 2, LEAST_I | 1, by);
            is(0x75, 0xC0000000L, LEAST_I | 1, by);
            is(0x76, 0x40000000L, LEAST_I | 1, by);
            is(0x77, 3, LEAST_I | 1, by);
            is(0x78, 0xC0000000L, LEAST_I | 1, by);
        }
        for (long by : new long[] {1, 65, LEAST_L | 1, -63, 0x100000001L}) {
            is(0x86, 2, LEAST_L | 1, by);
            is(0x87, 0xC000000000000000L, LEAST_L | 1, by);
            is(0x88, 0x4000000000000000L, LEAST_L | 1, by);
            is(0x89, 3, LEAST_L | 1, by);
            is(0x8A, 0xC000000000000000L, LEAST_L | 1, by);
        }
        for (int op = 0x74; op <= 0x78; op++) {
            is(op, 0xDEADBEEFL, 0xDEADBEEFL, 0);
            is(op, 0xDEADBEEFL, 0xDEADBEEFL, 32);
            is(op, 0xDEADBEEFL, 0xDEADBEEFL, 64);
            is(op + 0x12, 0xDEADBEEF01234567L, 0xDEADBEEF01234567L, 0);
            is(op + 0x12, 0xDEADBEEF01234567L, 0xDEADBEEF01234567L, 64);
            is(op + 0x12, 0xDEADBEEF01234567L, 0xDEADBEEF01234567L, 128);
        }
        is(0x74, LEAST_I, 1, 31);
        is(0x75, MINUS_I, LEAST_I, 31);
        is(0x76, 1, LEAST_I, 31);
        is(0x86, 1L << 32, 1, 32);
        is(0x86, LEAST_L, 1, 63);
        is(0x87, -1, LEAST_L, 63);
        is(0x88, 1, LEAST_L, 63);
    }

    private static void divisionTraps() {
        Kit.sentence("TRAP 3: / or remainder by 0; trap 4: / s of the least by -1 (the remainder is 0).");
        for (long a : new long[] {0, 1, LEAST_I, MINUS_I}) {
            for (int op = 0x6D; op <= 0x70; op++) {
                is(op, TRAP + 3, a, 0);
            }
        }
        for (long a : new long[] {0, 1, LEAST_L, -1}) {
            for (int op = 0x7F; op <= 0x82; op++) {
                is(op, TRAP + 3, a, 0);
            }
        }
        is(0x6D, TRAP + 4, LEAST_I, MINUS_I);
        is(0x6F, 0, LEAST_I, MINUS_I);
        is(0x6D, LEAST_I, LEAST_I, 1);
        is(0x6D, MOST_I, LEAST_I + 1, MINUS_I);
        is(0x7F, TRAP + 4, LEAST_L, -1);
        is(0x81, 0, LEAST_L, -1);
        is(0x7F, LEAST_L, LEAST_L, 1);
        is(0x7F, MOST_L, LEAST_L + 1, -1);
        is(0x7F, 0x80000000L, -0x80000000L, -1);
    }

    private static void wholeNumbers() {
        Kit.sentence("the whole number not below, not above, toward 0, nearest (of two the even one), each of these "
                + "four with the sign that was there, also of a 0 (-0.5 upward is -0)");
        double most = Double.POSITIVE_INFINITY;
        double[][] rows = {{0, 0, 0, 0, 0}, {-0.0, -0.0, -0.0, -0.0, -0.0}, {0.5, 1, 0, 0, 0},
                {-0.5, -0.0, -1, -0.0, -0.0}, {1.5, 2, 1, 1, 2}, {-1.5, -1, -2, -1, -2}, {2.5, 3, 2, 2, 2},
                {-2.5, -2, -3, -2, -2}, {0.75, 1, 0, 0, 1}, {-0.75, -0.0, -1, -0.0, -1}, {0.25, 1, 0, 0, 0},
                {-0.25, -0.0, -1, -0.0, -0.0}, {3, 3, 3, 3, 3}, {-3, -3, -3, -3, -3}, {most, most, most, most, most},
                {-most, -most, -most, -most, -most}, {1.25, 2, 1, 1, 1}, {1.75, 2, 1, 1, 2},
                {4194303.5, 4194304, 4194303, 4194303, 4194304}, {8388607.5, 8388608, 8388607, 8388607, 8388608},
                {8388606.5, 8388607, 8388606, 8388606, 8388606}, {8388609, 8388609, 8388609, 8388609, 8388609},
                {16777216, 16777216, 16777216, 16777216, 16777216}, {Float.MIN_VALUE, 1, 0, 0, 0},
                {-Float.MIN_VALUE, -0.0, -1, -0.0, -0.0}};
        for (double[] row : rows) {
            for (int k = 0; k < 4; k++) {
                both(0x8D + k, row[k + 1], row[0]);
            }
        }
        is(0x9E, d(4503599627370496.0), d(4503599627370495.5));
        is(0x9E, d(4503599627370494.0), d(4503599627370494.5));
        is(0x9B, d(1), d(Double.MIN_VALUE));
        is(0x9E, 0, d(0.49999999999999994));
        is(0x90, 0, f(0.49999997f));
    }

    private static void roots() {
        Kit.sentence("the square root (of a negative one a NaN, of -0 -0)");
        both(0x91, -0.0, -0.0);
        both(0x91, 0, 0);
        both(0x91, 2, 4);
        both(0x91, 1.5, 2.25);
        both(0x91, Double.POSITIVE_INFINITY, Double.POSITIVE_INFINITY);
        for (double number : new double[] {-1, -4, -1e-40, Double.NEGATIVE_INFINITY}) {
            is(0x91, NAN_F, f(number));
            is(0x9F, NAN_D, d(number));
        }
        is(0x91, 0x3FB504F3L, f(2));
        is(0x9F, 0x3FF6A09E667F3BCDL, d(2));
        is(0x91, 0x1A3504F3L, 1);
        is(0x9F, 0x1E60000000000000L, 1);
    }

    private static void lesserAndGreater() {
        Kit.sentence("the lesser (of 0 and -0 -0), the greater (0), a with the sign of b; the lesser and greater "
                + "with a NaN are a NaN");
        both(0x96, -0.0, 0, -0.0);
        both(0x96, -0.0, -0.0, 0);
        both(0x96, -0.0, -0.0, -0.0);
        both(0x96, 0, 0, 0);
        both(0x97, 0, 0, -0.0);
        both(0x97, 0, -0.0, 0);
        both(0x97, -0.0, -0.0, -0.0);
        both(0x96, -2, -2, 1);
        both(0x96, -2, 1, -2);
        both(0x96, -2, -2, -1);
        both(0x97, 1, -2, 1);
        both(0x97, -1, -1, -2);
        both(0x96, Double.NEGATIVE_INFINITY, 5, Double.NEGATIVE_INFINITY);
        both(0x97, Double.POSITIVE_INFINITY, 5, Double.POSITIVE_INFINITY);
        both(0x98, -5, 5, -0.0);
        both(0x98, 5, -5, 0);
        both(0x98, 5, -5, 3);
        for (int op = 0x96; op <= 0x97; op++) {
            for (int k = 0; k < NANS_F.length; k++) {
                is(op, NAN_F, NANS_F[k], f(Double.NEGATIVE_INFINITY));
                is(op, NAN_F, f(Double.POSITIVE_INFINITY), NANS_F[k]);
                is(op + 0x0E, NAN_D, NANS_D[k], d(Double.NEGATIVE_INFINITY));
                is(op + 0x0E, NAN_D, d(Double.POSITIVE_INFINITY), NANS_D[k]);
            }
        }
    }

    private static void longAndShort() {
        Kit.sentence("0xA7: L to I, the lowest bits. 0xAC, 0xAD: I to L, s, u.");
        is(0xA7, 0, 0x100000000L);
        is(0xA7, MASK, -1);
        is(0xA7, 0x9ABCDEF0L, 0x123456789ABCDEF0L);
        is(0xAC, -1, MINUS_I);
        is(0xAC, Integer.MIN_VALUE, LEAST_I);
        is(0xAC, MOST_I, MOST_I);
        is(0xAD, MASK, MINUS_I);
        is(0xAD, LEAST_I, LEAST_I);
    }

    /** For 0xA8 .. 0xAB of I, 0xAE .. 0xB1 of L: of F s, u, of D s, u. */
    private static void truncates(int op, double number, long due) {
        boolean single = (op - (op >= 0xAE ? 0xAE : 0xA8)) < 2;
        is(op, due, single ? f(number) : d(number));
    }

    private static void towardZero() {
        Kit.sentence("To the whole number toward 0: 0xA8, 0xA9: F to I, s, u; 0xAA, 0xAB: D to I; 0xAE, 0xAF: F to "
                + "L; 0xB0, 0xB1: D to L");
        int[] all = {0xA8, 0xA9, 0xAA, 0xAB, 0xAE, 0xAF, 0xB0, 0xB1};
        for (int op : all) {
            truncates(op, 0, 0);
            truncates(op, -0.0, 0);
            truncates(op, 0.9, 0);
            truncates(op, -0.9, 0);
            truncates(op, 1.9, 1);
            truncates(op, 8388607.5, 8388607);
            truncates(op, Float.MIN_VALUE, 0);
            boolean signed = op == 0xA8 || op == 0xAA || op == 0xAE || op == 0xB0;
            boolean ofI = op <= 0xAB;
            truncates(op, -1, signed ? ofI ? MINUS_I : -1 : TRAP + 4);
            truncates(op, -1.9, signed ? ofI ? MINUS_I : -1 : TRAP + 4);
        }
        is(0xA8, 0x7FFFFF80L, f(2147483520.0));
        is(0xA8, LEAST_I, f(-2147483648.0));
        is(0xA9, 0xFFFFFF00L, f(4294967040.0));
        is(0xAA, MOST_I, d(2147483647.9));
        is(0xAA, LEAST_I, d(-2147483648.9));
        is(0xAB, MASK, d(4294967295.9));
        is(0xAE, 0x7FFFFF8000000000L, f(9223371487098961920.0));
        is(0xAE, LEAST_L, f(-9223372036854775808.0));
        is(0xAF, 0xFFFFFF0000000000L, f(18446742974197923840.0));
        is(0xB0, 0x7FFFFFFFFFFFFC00L, d(9223372036854774784.0));
        is(0xB0, LEAST_L, d(-9223372036854775808.0));
        is(0xB1, 0xFFFFFFFFFFFFF800L, d(18446744073709549568.0));
        is(0xB1, LEAST_L, d(9223372036854775808.0));
    }

    private static void nothingToTruncate() {
        Kit.sentence("trap 5 for a NaN, trap 4 if that number is not there (u: -0.9 is 0)");
        for (int k = 0; k < NANS_F.length; k++) {
            for (int op : new int[] {0xA8, 0xA9, 0xAE, 0xAF}) {
                is(op, TRAP + 5, NANS_F[k]);
            }
            for (int op : new int[] {0xAA, 0xAB, 0xB0, 0xB1}) {
                is(op, TRAP + 5, NANS_D[k]);
            }
        }
        for (int op : new int[] {0xA8, 0xA9, 0xAA, 0xAB, 0xAE, 0xAF, 0xB0, 0xB1}) {
            truncates(op, Double.POSITIVE_INFINITY, TRAP + 4);
            truncates(op, Double.NEGATIVE_INFINITY, TRAP + 4);
            truncates(op, 1e30, TRAP + 4);
            truncates(op, -1e30, TRAP + 4);
            truncates(op, 18446744073709551616.0, TRAP + 4);
        }
        is(0xA8, TRAP + 4, f(2147483648.0));
        is(0xA8, TRAP + 4, f(-2147483904.0));
        is(0xA9, TRAP + 4, f(4294967296.0));
        is(0xA9, TRAP + 4, f(-1));
        is(0xA9, 0, f(-0.9));
        is(0xAA, TRAP + 4, d(2147483648.0));
        is(0xAA, TRAP + 4, d(-2147483649.0));
        is(0xAB, TRAP + 4, d(4294967296.0));
        is(0xAB, TRAP + 4, d(-1));
        is(0xAB, 0, d(-0.9999999999999999));
        is(0xAE, TRAP + 4, f(9223372036854775808.0));
        is(0xAE, TRAP + 4, f(-9223373136366403584.0));
        is(0xAF, TRAP + 4, f(-1));
        is(0xB0, TRAP + 4, d(9223372036854775808.0));
        is(0xB0, TRAP + 4, d(-9223372036854777856.0));
        is(0xB1, TRAP + 4, d(-1));
        is(0xB1, 0, d(-0.9));
    }

    private static void fromWhole() {
        Kit.sentence("To the nearest: 0xB2, 0xB3: I to F, s, u; 0xB4, 0xB5: L to F");
        is(0xB2, f(-1), MINUS_I);
        is(0xB3, f(4294967296.0), MINUS_I);
        is(0xB2, 0, 0);
        is(0xB2, f(-2147483648.0), LEAST_I);
        is(0xB3, f(2147483648.0), LEAST_I);
        // 2 to the power of 24 and 1 lies between two: the even one; and 3 goes upward.
        is(0xB2, f(16777216), 16777217);
        is(0xB2, f(16777220), 16777219);
        is(0xB3, f(16777216), 16777217);
        is(0xB4, f(-1), -1);
        is(0xB5, f(18446744073709551616.0), -1);
        is(0xB4, f(16777216), 16777217);
        is(0xB4, f(-9223372036854775808.0), LEAST_L);
        is(0xB5, f(9223372036854775808.0), LEAST_L);
        is(0xB5, 0x5F000000L, 0x8000008000000000L);
        is(0xB5, 0x5F000001L, 0x8000008000000001L);
        Kit.sentence("0xB7, 0xB8: I to D; 0xB9, 0xBA: L to D");
        is(0xB7, d(-1), MINUS_I);
        is(0xB8, d(4294967295.0), MINUS_I);
        is(0xB7, d(-2147483648.0), LEAST_I);
        is(0xB8, d(2147483648.0), LEAST_I);
        is(0xB9, d(-1), -1);
        is(0xBA, d(18446744073709551616.0), -1);
        is(0xB9, d(9007199254740992.0), 9007199254740993L);
        is(0xB9, d(9007199254740996.0), 9007199254740995L);
        is(0xBA, d(9223372036854775808.0), 0x8000000000000400L);
        is(0xBA, d(9223372036854777856.0), 0x8000000000000401L);
        is(0xB9, 0, 0);
    }

    private static void betweenFormats() {
        Kit.sentence("0xB6: D to F");
        is(0xB6, f(1.5), d(1.5));
        is(0xB6, 0x80000000L, d(-0.0));
        is(0xB6, 0x3F800000L, 0x3FF0000010000000L);
        is(0xB6, 0x3F800001L, 0x3FF0000010000001L);
        is(0xB6, 0x3F800002L, 0x3FF0000030000000L);
        is(0xB6, 0x7F800000L, d(3.4028235677973366e38));
        is(0xB6, 0x7F7FFFFFL, d(3.4028235677973362e38));
        is(0xB6, 0x7F800000L, d(1e300));
        is(0xB6, 0xFF800000L, d(Double.NEGATIVE_INFINITY));
        // Half of the smallest, and the next one above that.
        is(0xB6, 0, 0x3690000000000000L);
        is(0xB6, 1, 0x3690000000000001L);
        is(0xB6, 0x80000000L, d(-1e-300));
        Kit.sentence("0xBB: F to D");
        is(0xBB, d(1.5), f(1.5));
        is(0xBB, LEAST_L, f(-0.0));
        is(0xBB, 0x36A0000000000000L, 1);
        is(0xBB, 0x7FF0000000000000L, 0x7F800000L);
        is(0xBB, 0xFFF0000000000000L, 0xFF800000L);
        is(0xBB, 0x47EFFFFFE0000000L, 0x7F7FFFFFL);
    }

    private static void bitsAsTheyAre() {
        Kit.sentence("The bits as they are: 0xBC: F to I; 0xBD: D to L; 0xBE: I to F; 0xBF: L to D.");
        for (long bits : new long[] {0, 1, LEAST_I, MINUS_I, 0x7F800001L, 0xFFC00001L, 0x3F800000L}) {
            is(0xBC, bits, bits);
            is(0xBE, bits, bits);
        }
        for (long bits : new long[] {0, 1, LEAST_L, -1, 0x7FF0000000000001L, 0xFFF8000000000001L}) {
            is(0xBD, bits, bits);
            is(0xBF, bits, bits);
        }
        // Of an argument of F the lowest 32 bits.
        is(0xBC, 0x3F800000L, -1L << 32 | 0x3F800000L);
    }
}
