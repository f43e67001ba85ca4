/** Part 4 of the terms, sentence by sentence: loads, stores, pages and how memories grow. */
public final class MemoryTest {
    private static final int I = Kit.I;
    private static final int L = Kit.L;
    private static final int F = Kit.F;
    private static final int D = Kit.D;
    private static final int[] TYPES = {I, L, F, D, I, I, I, I, L, L, L, L, L, L, I, L, F, D, I, I, L, L, L};
    private static final int[] SIZES = {4, 8, 4, 8, 1, 1, 2, 2, 1, 1, 2, 2, 4, 4, 4, 8, 4, 8, 1, 2, 1, 2, 4};

    public static void main(String[] args) {
        loads();
        stores();
        storesTakeTwo();
        lastPlaces();
        placesBeyond();
        placesTogether();
        lowestByteFirst();
        pages();
        growing();
        growingByMany();
        growingToTheMost();
        growingAll();
        growingImported();
        Kit.close();
    }

    private static byte[] loader(int op, long offset) {
        return Kit.module(Kit.sectionOf(1, Kit.type(Kit.of(I), TYPES[op - 0x28])), 3, 2, 1, 0, 5, 3, 1, 0, 1,
                Kit.sectionOf(7, Kit.export("f", 0, 0)), Kit.sectionOf(10, Kit.body(0x20, 0, op, 0,
                Kit.count(offset))));
    }

    private static byte[] storer(int op, long offset) {
        return Kit.module(Kit.sectionOf(1, Kit.type(Kit.of(I, TYPES[op - 0x28]))), 3, 2, 1, 0, 5, 3, 1, 0, 1,
                Kit.sectionOf(7, Kit.export("f", 0, 0)),
                Kit.sectionOf(10, Kit.body(0x20, 0, 0x20, 1, op, 0, Kit.count(offset))));
    }

    private static long widened(int op, long got) {
        switch (op) {
            case 0x2C: return (byte) got & 0xFFFFFFFFL;
            case 0x2E: return (short) got & 0xFFFFFFFFL;
            case 0x30: return (byte) got;
            case 0x32: return (short) got;
            case 0x34: return (int) got;
            default: return got;
        }
    }

    private static void loads() {
        Kit.sentence("LOADS (type, bytes, and s or u where they are fewer)");
        long[] patterns = {0x8877665544332211L, 0x7FFFFFFFFFFFFFFFL, 0x0102030405060780L, 0x01020304FF06807FL,
                0x7FF0000000000001L, 0x123456787F800001L, 0x0000000080000000L, 0x0000000000008000L, 0x0000000000000080L,
                -1L};
        for (int op = 0x28; op <= 0x35; op++) {
            StackHost x = new StackHost();
            int made = Kit.instance(x, loader(op, 3));
            int size = SIZES[op - 0x28];
            for (long pattern : patterns) {
                for (int k = 0; k < 8; k++) {
                    x.poke(made, 100 + k, (int) (pattern >>> 8 * k));
                }
                Kit.same("run", Kit.callOf(x, made, 0, 97), 0);
                long got = size == 8 ? pattern : pattern & ((1L << 8 * size) - 1);
                Kit.same("load " + Integer.toHexString(op), x.result(), widened(op, got));
            }
        }
    }

    private static void stores() {
        Kit.sentence("STORES (the lowest bytes)");
        for (int op = 0x36; op <= 0x3E; op++) {
            StackHost x = new StackHost();
            int made = Kit.instance(x, storer(op, 5));
            long value = 0x8877665544332211L;
            for (int k = 0; k < 12; k++) {
                x.poke(made, 98 + k, 0xEE);
            }
            Kit.same("run", Kit.callOf(x, made, 0, 95, value), 0);
            for (int k = -2; k < 10; k++) {
                boolean within = k >= 0 && k < SIZES[op - 0x28];
                Kit.same("store " + Integer.toHexString(op) + ", byte " + k, x.peek(made, 100 + k),
                        within ? (int) (value >>> 8 * k) & 255 : 0xEE);
            }
        }
    }

    private static void storesTakeTwo() {
        Kit.sentence("stores take their type, then I");
        for (int op = 0x36; op <= 0x3E; op++) {
            int type = TYPES[op - 0x28];
            byte[] value = type == I ? Kit.i32(7) : type == L ? Kit.i64(7) : type == F ? Kit.f32(7) : Kit.f64(7);
            StackHost x = new StackHost();
            int made = Kit.instance(x, Kit.module(Kit.sectionOf(1, Kit.type(Kit.of(), I)), 3, 2, 1, 0, 5, 3, 1, 0, 1,
                    Kit.sectionOf(7, Kit.export("f", 0, 0)),
                    Kit.sectionOf(10, Kit.body(Kit.i32(40), Kit.i32(9), value, op, 0, 0, Kit.i32(2), 0x6A))));
            Kit.same("run", Kit.callOf(x, made, 0), 0);
            Kit.same("what is below store " + op, x.result(), 42);
        }
        for (int op = 0x28; op <= 0x35; op++) {
            StackHost x = new StackHost();
            int made = Kit.instance(x, Kit.module(Kit.sectionOf(1, Kit.type(Kit.of(), I)), 3, 2, 1, 0, 5, 3, 1, 0, 1,
                    Kit.sectionOf(7, Kit.export("f", 0, 0)),
                    Kit.sectionOf(10, Kit.body(Kit.i32(40), Kit.i32(9), op, 0, 0, 0x1A, Kit.i32(2), 0x6A))));
            Kit.same("run", Kit.callOf(x, made, 0), 0);
            Kit.same("what is below load " + op, x.result(), 42);
        }
    }

    private static byte[] using(int op, long offset) {
        return op >= 0x36 ? storer(op, offset) : loader(op, offset);
    }

    private static void lastPlaces() {
        Kit.sentence("trap 2 if a byte from there on is not in the memory, and nothing is stored");
        for (int op = 0x28; op <= 0x3E; op++) {
            StackHost x = new StackHost();
            int size = SIZES[op - 0x28];
            byte[] module = using(op, 0);
            int made = Kit.instance(x, module);
            Kit.same("the last place, " + op, trying(x, made, op, 65536 - size), 0);
            for (int k = 0; k < 8; k++) {
                x.poke(made, 65528 + k, 0x55);
            }
            for (int k = 1; k <= size; k++) {
                Kit.same(k + " bytes beyond, " + op, trying(x, made, op, 65536 - size + k), 1);
                Kit.same("trap(0)", x.trap(0), 2);
                Kit.same("trap(3)", x.trap(3), module.length - 4);
            }
            for (int k = 0; k < 8; k++) {
                Kit.same("nothing is stored", x.peek(made, 65528 + k), 0x55);
            }
        }
        emptyMemory();
    }

    private static void emptyMemory() {
        StackHost x = new StackHost();
        int made = Kit.instance(x, Kit.module(Kit.sectionOf(1, Kit.type(Kit.of(I), I)), 3, 2, 1, 0, 5, 3, 1, 0, 0,
                Kit.sectionOf(7, Kit.export("f", 0, 0)), Kit.sectionOf(10, Kit.body(0x20, 0, 0x2D, 0, 0))));
        Kit.same("an empty memory", Kit.callOf(x, made, 0, 0), 1);
        Kit.same("trap(0)", x.trap(0), 2);
    }

    private static void placesBeyond() {
        Kit.sentence("Their place is the I (u) that is taken and the second count, together");
        for (int op = 0x28; op <= 0x3E; op++) {
            StackHost x = new StackHost();
            int made = Kit.instance(x, using(op, 0));
            int size = SIZES[op - 0x28];
            for (long place : new long[] {65536, 0x7FFFFFFFL, 0x80000000L, 0xFFFFFFFFL - size, 0xFFFFFFFFL - size + 1,
                    0xFFFFFFFFL}) {
                Kit.same("the I has no sign, " + op, trying(x, made, op, place), 1);
                Kit.same("trap(0)", x.trap(0), 2);
            }
        }
    }

    private static void placesTogether() {
        Kit.sentence("Their place is the I (u) that is taken and the second count, together");
        for (int op = 0x28; op <= 0x3E; op++) {
            StackHost x = new StackHost();
            int size = SIZES[op - 0x28];
            int near = Kit.instance(x, using(op, 65536 - size));
            Kit.same("a count to the last place, " + op, trying(x, near, op, 0), 0);
            Kit.same("a count beyond it, " + op, trying(x, near, op, 1), 1);
            Kit.same("together they do not begin anew, " + op, trying(x, near, op, 0xFFFFFFFFL), 1);
            int far = Kit.instance(x, using(op, 0xFFFFFFFFL));
            for (long place : new long[] {0, 1, 2, 0x80000000L, 0xFFFFFFFFL}) {
                Kit.same("the greatest count and " + place + ", " + op, trying(x, far, op, place), 1);
                Kit.same("trap(0)", x.trap(0), 2);
            }
            int half = Kit.instance(x, using(op, 0x80000000L));
            Kit.same("twice 2 to the power of 31, " + op, trying(x, half, op, 0x80000000L), 1);
            int some = Kit.instance(x, using(op, 300));
            Kit.same("the last place, " + op, trying(x, some, op, 65536 - size - 300), 0);
            Kit.same("one beyond, " + op, trying(x, some, op, 65536 - size - 299), 1);
        }
    }

    private static int trying(StackHost x, int made, int op, long place) {
        return op >= 0x36 ? Kit.callOf(x, made, 0, place, 0) : Kit.callOf(x, made, 0, place);
    }

    private static void lowestByteFirst() {
        Kit.sentence("The lowest byte is first.");
        // The memory's second page is not the one behind its first among all pages.
        StackHost x = new StackHost();
        byte[] module = Kit.module(Kit.sectionOf(1, Kit.type(Kit.of(I), L), Kit.type(Kit.of(I, L)),
                Kit.type(Kit.of(I), I)), Kit.section(3, 3, 0, 1, 2), 5, 3, 1, 0, 1,
                Kit.sectionOf(7, Kit.export("l", 0, 0), Kit.export("s", 0, 1), Kit.export("g", 0, 2)),
                Kit.sectionOf(10, Kit.body(0x20, 0, 0x29, 0, 0), Kit.body(0x20, 0, 0x20, 1, 0x37, 0, 0),
                Kit.body(0x20, 0, 0x40, 0)));
        int first = Kit.instance(x, module);
        int second = x.instantiate(0);
        Kit.callOf(x, first, 2, 1);
        Kit.same("one page before", x.result(), 1);
        Kit.callOf(x, second, 2, 1);
        for (int at = 65528; at <= 65536; at++) {
            long value = 0x0102030405060708L * (at - 65520);
            Kit.same("store", Kit.callOf(x, first, 1, at, value), 0);
            Kit.same("store", Kit.callOf(x, second, 1, at, ~value), 0);
            Kit.callOf(x, first, 0, at);
            Kit.same("load at " + at, x.result(), value);
            Kit.callOf(x, second, 0, at);
            Kit.same("load at " + at, x.result(), ~value);
        }
        Kit.same("beyond both pages", Kit.callOf(x, first, 0, 131072 - 7), 1);
        Kit.same("the last place of both", Kit.callOf(x, first, 0, 131072 - 8), 0);
    }

    private static byte[] grower(int... limits) {
        return Kit.module(Kit.sectionOf(1, Kit.type(Kit.of(I), I)), 3, 3, 2, 0, 0, Kit.section(5, 1, Kit.bytes(limits)),
                Kit.sectionOf(7, Kit.export("g", 0, 0), Kit.export("s", 0, 1)), Kit.sectionOf(10,
                Kit.body(Kit.i32(500), 0x20, 0, 0x40, 0, 0x0F), Kit.body(Kit.i32(500), 0x3F, 0, 0x0F)));
    }

    private static void grows(StackHost x, int made, long by, long due) {
        Kit.same("run", Kit.callOf(x, made, 0, by), 0);
        Kit.same("0x40 of " + by, x.result(), due & 0xFFFFFFFFL);
        Kit.callOf(x, made, 1, 0);
        Kit.same("0x3F", x.result(), x.pages(made));
    }

    private static void pages() {
        Kit.sentence("0x3F: the memory's PAGES (of 65536 bytes).");
        for (int n = 0; n <= 16; n++) {
            StackHost x = new StackHost();
            int made = Kit.instance(x, grower(0, n));
            Kit.callOf(x, made, 1, 0);
            Kit.same("0x3F", x.result(), n);
            Kit.same("pages", x.pages(made), n);
            if (n > 0) {
                x.poke(made, n * 65536 - 1, 7);
                Kit.same("the last byte", x.peek(made, n * 65536 - 1), 7);
            }
            Kit.outside("a byte beyond", () -> x.peek(made, x.pages(made) * 65536));
        }
    }

    private static void growing() {
        Kit.sentence("the memory gets n pages more, of zeros");
        StackHost x = new StackHost();
        int made = Kit.instance(x, grower(0, 1));
        x.poke(made, 0, 1);
        x.poke(made, 65535, 2);
        grows(x, made, 0, 1);
        grows(x, made, 2, 1);
        Kit.same("pages", x.pages(made), 3);
        for (int at : new int[] {65536, 65537, 131071, 131072, 3 * 65536 - 1}) {
            Kit.same("of zeros", x.peek(made, at), 0);
        }
        Kit.same("what was there stays", x.peek(made, 0), 1);
        Kit.same("what was there stays", x.peek(made, 65535), 2);
        Kit.outside("no more than that", () -> x.peek(made, 3 * 65536));
        // A page at a time.
        StackHost y = new StackHost();
        int slow = Kit.instance(y, grower(0, 0));
        for (int k = 0; k < 16; k++) {
            grows(y, slow, 1, k);
            y.poke(slow, k * 65536 + k, k + 1);
        }
        for (int k = 0; k < 16; k++) {
            Kit.same("what was there stays", y.peek(slow, k * 65536 + k), k + 1);
        }
    }

    private static void growingByMany() {
        Kit.sentence("0x40: a is n (u)");
        StackHost x = new StackHost();
        int made = Kit.instance(x, grower(0, 2));
        for (long n : new long[] {15, 16, 65534, 65535, 65536, 0x7FFFFFFFL, 0x80000000L, 0xFFFFFFFEL, 0xFFFFFFFFL}) {
            grows(x, made, n, -1);
            Kit.same("pages", x.pages(made), 2);
        }
        grows(x, made, 14, 2);
    }

    private static void growingToTheMost() {
        Kit.sentence("if it has no more than its most then, 65536 without one");
        StackHost x = new StackHost();
        int made = Kit.instance(x, grower(1, 1, 3));
        grows(x, made, 3, -1);
        grows(x, made, 2, 1);
        grows(x, made, 1, -1);
        grows(x, made, 0, 3);
        grows(x, made, 0xFFFFFFFFL, -1);
        int none = Kit.instance(x, grower(1, 0, 0));
        grows(x, none, 0, 0);
        grows(x, none, 1, -1);
        int far = Kit.instance(x, grower(1, 0, 100));
        grows(x, far, 13, 0);
        StackHost y = new StackHost();
        grows(y, Kit.instance(y, grower(0, 0)), 16, 0);
    }

    private static void growingAll() {
        Kit.sentence("and all memories together no more than 16: puts the pages it had; else it puts -1");
        StackHost x = new StackHost();
        int first = Kit.instance(x, grower(0, 3));
        int other = Kit.instance(x, grower(0, 0));
        grows(x, other, 14, -1);
        Kit.same("pages", x.pages(other), 0);
        grows(x, other, 12, 0);
        grows(x, first, 2, -1);
        grows(x, first, 1, 3);
        grows(x, other, 1, -1);
        grows(x, other, 0, 12);
        grows(x, first, 0, 4);
    }

    private static void growingImported() {
        Kit.sentence("if it has no more than its most then");
        StackHost x = new StackHost();
        byte[] owner = Kit.module(5, 4, 1, 1, 1, 2, Kit.sectionOf(7, Kit.export("m", 2, 0)));
        int first = Kit.instance(x, owner);
        Kit.name(x, first, "o");
        byte[] user = Kit.module(Kit.sectionOf(1, Kit.type(Kit.of(I), I)),
                Kit.sectionOf(2, Kit.join(Kit.text("o"), Kit.text("m"), 2, 0, 1)), 3, 2, 1, 0,
                Kit.sectionOf(7, Kit.export("g", 0, 0)), Kit.sectionOf(10, Kit.body(0x20, 0, 0x40, 0)));
        int second = Kit.instance(x, user);
        Kit.callOf(x, second, 0, 2);
        Kit.same("the memory's own most counts", x.result(), 0xFFFFFFFFL);
        Kit.callOf(x, second, 0, 1);
        Kit.same("0x40", x.result(), 1);
        Kit.same("pages of the owner", x.pages(first), 2);
        Kit.same("pages of the user", x.pages(second), 2);
    }
}
