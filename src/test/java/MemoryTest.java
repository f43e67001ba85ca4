/** Promises 19 to 21 and 24, part 4: memories, their loads and stores, and how they grow. */
public final class MemoryTest {
    private static final int I = Kit.I;
    private static final int L = Kit.L;
    private static final int F = Kit.F;
    private static final int D = Kit.D;
    private static final int[] TYPES = {I, L, F, D, I, I, I, I, L, L, L, L, L, L, I, L, F, D, I, I, L, L, L};
    private static final int[] SIZES = {4, 8, 4, 8, 1, 1, 2, 2, 1, 1, 2, 2, 4, 4, 4, 8, 4, 8, 1, 2, 1, 2, 4};

    public static void main(String[] args) {
        peeking();
        loads();
        stores();
        edges();
        acrossPages();
        growing();
        sharedPages();
        Kit.close();
    }

    private static void peeking() {
        StackHost x = new StackHost();
        int none = Kit.instance(x, Kit.module());
        int empty = Kit.instance(x, Kit.module(5, 3, 1, 0, 0));
        int two = Kit.instance(x, Kit.module(5, 3, 1, 0, 2));
        Kit.same("pages without a memory", x.pages(none), -1);
        Kit.same("pages of an empty one", x.pages(empty), 0);
        Kit.same("pages", x.pages(two), 2);
        Kit.outside("pages(3)", () -> x.pages(3));
        Kit.outside("pages(-1)", () -> x.pages(-1));
        Kit.outside("peek without a memory", () -> x.peek(none, 0));
        Kit.outside("poke without a memory", () -> x.poke(none, 0, 0));
        Kit.outside("peek of an empty one", () -> x.peek(empty, 0));
        Kit.outside("poke of an empty one", () -> x.poke(empty, 0, 0));
        for (int at : new int[] {0, 1, 7, 8, 65535, 65536, 131071}) {
            Kit.same("peek", x.peek(two, at), 0);
            x.poke(two, at, 0x1FF - at);
            Kit.same("peek(" + at + ")", x.peek(two, at), 0x1FF - at & 255);
        }
        x.poke(two, 8, -1);
        Kit.same("the byte below", x.peek(two, 7), 0x1F8 & 255);
        Kit.same("a byte without a sign", x.peek(two, 8), 255);
        Kit.same("the byte above", x.peek(two, 9), 0);
        x.poke(two, 8, 256);
        Kit.same("the lowest eight bits", x.peek(two, 8), 0);
        Kit.outside("peek beyond", () -> x.peek(two, 131072));
        Kit.outside("peek below", () -> x.peek(two, -1));
        Kit.outside("poke beyond", () -> x.poke(two, 131072, 0));
        Kit.outside("poke below", () -> x.poke(two, -1, 0));
        Kit.outside("peek far beyond", () -> x.peek(two, Integer.MAX_VALUE));
        Kit.outside("peek of no instance", () -> x.peek(3, 0));
        Kit.outside("poke of no instance", () -> x.poke(-1, 0, 0));
    }

    private static byte[] loader(int op, long offset) {
        return Kit.module(Kit.sectionOf(1, Kit.type(Kit.of(I), TYPES[op - 0x28])), 3, 2, 1, 0, 5, 3, 1, 0, 1,
                Kit.sectionOf(7, Kit.export("f", 0, 0)), Kit.sectionOf(10, Kit.body(0x20, 0, op, 0, Kit.count(offset))));
    }

    private static byte[] storer(int op, long offset) {
        return Kit.module(Kit.sectionOf(1, Kit.type(Kit.of(I, TYPES[op - 0x28]))), 3, 2, 1, 0, 5, 3, 1, 0, 1,
                Kit.sectionOf(7, Kit.export("f", 0, 0)),
                Kit.sectionOf(10, Kit.body(0x20, 0, 0x20, 1, op, 0, Kit.count(offset))));
    }

    private static long widened(int op, long got) {
        switch (op) {
            case 0x2C: return (byte) got & 0xFFFFFFFFL;
            case 0x2E: return (short) got & 0xFFFFFFFFL;
            case 0x30: return (byte) got;
            case 0x32: return (short) got;
            case 0x34: return (int) got;
            default: return got;
        }
    }

    private static void loads() {
        long[] patterns = {0x8877665544332211L, 0x7FFFFFFFFFFFFFFFL, 0x0102030405060780L, 0x01020304FF06807FL,
            0x7FF0000000000001L, 0x123456787F800001L};
        for (int op = 0x28; op <= 0x35; op++) {
            StackHost x = new StackHost();
            int made = Kit.instance(x, loader(op, 3));
            int size = SIZES[op - 0x28];
            for (long pattern : patterns) {
                for (int k = 0; k < 8; k++) {
                    x.poke(made, 100 + k, (int) (pattern >>> 8 * k));
                }
                Kit.same("run", Kit.callOf(x, made, 0, 97), 0);
                long got = size == 8 ? pattern : pattern & ((1L << 8 * size) - 1);
                Kit.same("load " + Integer.toHexString(op), x.result(), widened(op, got));
            }
        }
    }

    private static void stores() {
        for (int op = 0x36; op <= 0x3E; op++) {
            StackHost x = new StackHost();
            int made = Kit.instance(x, storer(op, 5));
            long value = 0x8877665544332211L;
            for (int k = 0; k < 12; k++) {
                x.poke(made, 98 + k, 0xEE);
            }
            Kit.same("run", Kit.callOf(x, made, 0, 95, value), 0);
            for (int k = -2; k < 10; k++) {
                boolean within = k >= 0 && k < SIZES[op - 0x28];
                Kit.same("store " + Integer.toHexString(op) + ", byte " + k, x.peek(made, 100 + k),
                        within ? (int) (value >>> 8 * k) & 255 : 0xEE);
            }
        }
    }

    private static void edges() {
        for (int op = 0x28; op <= 0x3E; op++) {
            StackHost x = new StackHost();
            boolean stores = op >= 0x36;
            int size = SIZES[op - 0x28];
            byte[] module = stores ? storer(op, 0) : loader(op, 0);
            int made = Kit.instance(x, module);
            Kit.same("the last place, " + op, trying(x, made, stores, 65536 - size), 0);
            for (int k = 0; k < 8; k++) {
                x.poke(made, 65528 + k, 0x55);
            }
            long[] beyond = {65536 - size + 1, 65536, 0xFFFFFFFFL, 0x80000000L, 0x7FFFFFFFL, 0xFFFFFFFFL - size + 1};
            for (long place : beyond) {
                Kit.same("beyond, " + op, trying(x, made, stores, place), 1);
                Kit.same("trap(0)", x.trap(0), 2);
                Kit.same("trap(3)", x.trap(3), module.length - 4);
            }
            for (int k = 0; k < 8; k++) {
                Kit.same("nothing is stored", x.peek(made, 65528 + k), 0x55);
            }
            int far = Kit.instance(x, stores ? storer(op, 0xFFFFFFFFL) : loader(op, 0xFFFFFFFFL));
            Kit.same("the greatest offset, " + op, trying(x, far, stores, 0), 1);
            Kit.same("the greatest offset and place, " + op, trying(x, far, stores, 0xFFFFFFFFL), 1);
            Kit.same("together they do not begin anew, " + op, trying(x, far, stores, 1), 1);
            int near = Kit.instance(x, stores ? storer(op, 65536 - size) : loader(op, 65536 - size));
            Kit.same("an offset to the last place, " + op, trying(x, near, stores, 0), 0);
            Kit.same("an offset beyond it, " + op, trying(x, near, stores, 1), 1);
            Kit.same("an offset beyond it, " + op, trying(x, near, stores, 0xFFFFFFFFL), 1);
        }
    }

    private static int trying(StackHost x, int made, boolean stores, long place) {
        return stores ? Kit.callOf(x, made, 0, place, 0) : Kit.callOf(x, made, 0, place);
    }

    private static void acrossPages() {
        // The memory's second page is not the one behind its first among all pages.
        StackHost x = new StackHost();
        byte[] module = Kit.module(Kit.sectionOf(1, Kit.type(Kit.of(I), L), Kit.type(Kit.of(I, L)), Kit.type(Kit.of(I), I)),
                Kit.section(3, 3, 0, 1, 2), 5, 3, 1, 0, 1,
                Kit.sectionOf(7, Kit.export("l", 0, 0), Kit.export("s", 0, 1), Kit.export("g", 0, 2)),
                Kit.sectionOf(10, Kit.body(0x20, 0, 0x29, 0, 0), Kit.body(0x20, 0, 0x20, 1, 0x37, 0, 0),
                        Kit.body(0x20, 0, 0x40, 0)));
        int first = Kit.instance(x, module);
        int second = x.instantiate(0);
        Kit.callOf(x, first, 2, 1);
        Kit.same("one page before", x.result(), 1);
        Kit.callOf(x, second, 2, 1);
        for (int at = 65528; at <= 65536; at++) {
            long value = 0x0102030405060708L * (at - 65520);
            Kit.same("store", Kit.callOf(x, first, 1, at, value), 0);
            Kit.same("store", Kit.callOf(x, second, 1, at, ~value), 0);
            Kit.callOf(x, first, 0, at);
            Kit.same("load at " + at, x.result(), value);
            Kit.callOf(x, second, 0, at);
            Kit.same("load at " + at, x.result(), ~value);
        }
        Kit.same("beyond both pages", Kit.callOf(x, first, 0, 131072 - 7), 1);
        Kit.same("the last place of both", Kit.callOf(x, first, 0, 131072 - 8), 0);
    }

    private static byte[] grower(int... limits) {
        return Kit.module(Kit.sectionOf(1, Kit.type(Kit.of(I), I)), 3, 3, 2, 0, 0, Kit.section(5, 1, Kit.bytes(limits)),
                Kit.sectionOf(7, Kit.export("g", 0, 0), Kit.export("s", 0, 1)),
                Kit.sectionOf(10, Kit.body(Kit.i32(500), 0x20, 0, 0x40, 0, 0x0F), Kit.body(Kit.i32(500), 0x3F, 0, 0x0F)));
    }

    private static void grows(StackHost x, int made, long by, long due) {
        Kit.same("run", Kit.callOf(x, made, 0, by), 0);
        Kit.same("0x40 of " + by, x.result(), due & 0xFFFFFFFFL);
        Kit.callOf(x, made, 1, 0);
        Kit.same("0x3F", x.result(), x.pages(made));
    }

    private static void growing() {
        StackHost x = new StackHost();
        int made = Kit.instance(x, grower(1, 1, 3));
        grows(x, made, 0, 1);
        grows(x, made, 3, -1);
        grows(x, made, 2, 1);
        Kit.same("pages", x.pages(made), 3);
        Kit.same("a new page is of zeros", x.peek(made, 3 * 65536 - 1), 0);
        grows(x, made, 1, -1);
        grows(x, made, 0, 3);
        grows(x, made, 0xFFFFFFFFL, -1);
        int other = Kit.instance(x, grower(0, 0));
        grows(x, other, 14, -1);
        Kit.same("pages", x.pages(other), 0);
        grows(x, other, 0x80000000L, -1);
        grows(x, other, 0xFFFFFFFFL, -1);
        grows(x, other, 65536, -1);
        grows(x, other, 12, 0);
        grows(x, other, 1, 12);
        grows(x, other, 1, -1);
        grows(x, other, 0, 13);
        x.poke(other, 13 * 65536 - 1, 9);
        Kit.same("the last byte", x.peek(other, 13 * 65536 - 1), 9);
        Kit.outside("beyond", () -> x.peek(other, 13 * 65536));
        int none = Kit.instance(x, grower(1, 0, 0));
        grows(x, none, 0, 0);
        grows(x, none, 1, -1);
        // A page at a time.
        StackHost y = new StackHost();
        int slow = Kit.instance(y, grower(0, 0));
        for (int k = 0; k < 16; k++) {
            grows(y, slow, 1, k);
            y.poke(slow, k * 65536 + k, k + 1);
        }
        grows(y, slow, 1, -1);
        for (int k = 0; k < 16; k++) {
            Kit.same("what was there stays", y.peek(slow, k * 65536 + k), k + 1);
        }
    }

    private static void sharedPages() {
        StackHost x = new StackHost();
        byte[] owner = Kit.module(5, 4, 1, 1, 1, 2, Kit.sectionOf(7, Kit.export("m", 2, 0)));
        int first = Kit.instance(x, owner);
        Kit.name(x, first, "o");
        byte[] user = Kit.module(Kit.sectionOf(1, Kit.type(Kit.of(I), I)),
                Kit.sectionOf(2, Kit.join(Kit.text("o"), Kit.text("m"), 2, 0, 1)), 3, 2, 1, 0,
                Kit.sectionOf(7, Kit.export("g", 0, 0)), Kit.sectionOf(10, Kit.body(0x20, 0, 0x40, 0)));
        int second = Kit.instance(x, user);
        Kit.callOf(x, second, 0, 2);
        Kit.same("the memory's own most counts", x.result(), 0xFFFFFFFFL);
        Kit.callOf(x, second, 0, 1);
        Kit.same("0x40", x.result(), 1);
        Kit.same("pages of the owner", x.pages(first), 2);
        Kit.same("pages of the user", x.pages(second), 2);
        Kit.same("wrong()", x.wrong(), 0);
    }
}
