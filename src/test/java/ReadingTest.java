/** Promises 4 and 5, parts 1 and 2: bytes that are read as modules, and the faults 1 to 10. */
public final class ReadingTest {
    private static final byte[] VOID_TYPE = Kit.type(Kit.of());

    public static void main(String[] args) {
        header();
        sections();
        counts();
        signedNumbers();
        names();
        types();
        importsAndLimits();
        exportsElementsData();
        bodies();
        expressions();
        instructions();
        loading();
        Kit.close();
    }

    private static void header() {
        byte[] magic = Kit.bytes(0, 97, 115, 109, 1, 0, 0, 0);
        Kit.valid("a module of nothing", magic);
        for (int k = 0; k < 8; k++) {
            byte[] broken = magic.clone();
            broken[k]++;
            Kit.faults("byte " + k + " of the header", broken, 1, k);
            Kit.faults("a header of " + k + " bytes", java.util.Arrays.copyOf(magic, k), 1, k);
        }
    }

    private static void sections() {
        Kit.faults("kind 12", Kit.module(12, 0), 5, 8);
        Kit.faults("kind 255", Kit.module(255), 5, 8);
        Kit.faults("no size", Kit.module(1), 2, 9);
        Kit.faults("a size that goes beyond", Kit.module(1, 2, 0), 2, 11);
        Kit.faults("a size that goes far beyond", Kit.module(1, Kit.count(0xFFFFFFFFL), 0), 2, 15);
        Kit.faults("a section beyond, its content at fault", Kit.module(1, 5, 1, 95), 2, 12);
        Kit.faults("twice", Kit.module(1, 1, 0, 1, 1, 0), 6, 11);
        Kit.faults("falling", Kit.module(2, 1, 0, 1, 1, 0), 6, 11);
        Kit.faults("falling, with one of kind 0 between", Kit.module(2, 1, 0, 0, 1, 0, 1, 1, 0), 6, 14);
        Kit.valid("rising", Kit.module(1, 1, 0, 2, 1, 0, 3, 1, 0, 4, 1, 0, 5, 1, 0, 6, 1, 0, 7, 1, 0, 9, 1, 0, 10, 1, 0,
                11, 1, 0));
        Kit.valid("kind 0 anywhere", Kit.module(0, 1, 0, 0, 3, 1, 65, 7, 1, 1, 0, 0, 2, 0, 255, 11, 1, 0, 0, 1, 0));
        Kit.faults("kind 0 without a name", Kit.module(0, 0), 2, 10);
        Kit.faults("kind 0 with too long a name", Kit.module(0, 1, 1), 2, 11);
        Kit.faults("left over", Kit.module(1, 2, 0, 0), 7, 11);
        Kit.faults("left over in section 8", Kit.module(8, 2, 0, 0), 7, 11);
        Kit.faults("nothing in a section", Kit.module(1, 0), 2, 10);
        Kit.faults("nothing in a section, and another one", Kit.module(1, 0, 2, 1, 0), 2, 10);
        Kit.faults("a row that the section cuts", Kit.module(1, 1, 1, 96, 0, 0), 2, 11);
        Kit.faults("no bodies", Kit.module(Kit.sectionOf(1, VOID_TYPE), 3, 2, 1, 0), 8, 18);
        Kit.faults("a body too many", Kit.module(10, 4, 1, 2, 0, 11), 8, 14);
        Kit.faults("fault 8 comes before those of validity", Kit.module(3, 2, 1, 0), 8, 12);
        Kit.faults("faults of reading come first", Kit.module(3, 2, 1, 0, 12), 5, 12);
    }

    private static void counts() {
        Kit.valid("a long zero", Kit.module(1, Kit.bytes(0x81, 0x80, 0x80, 0x80, 0), 0));
        Kit.valid("a long zero inside", Kit.module(1, 5, Kit.bytes(0x80, 0x80, 0x80, 0x80, 0)));
        Kit.faults("a fifth byte of 16", Kit.module(1, 5, Kit.bytes(0x80, 0x80, 0x80, 0x80, 16)), 3, 14);
        Kit.faults("a fifth byte of 128", Kit.module(1, 6, Kit.bytes(0x80, 0x80, 0x80, 0x80, 0x80, 0)), 3, 14);
        Kit.faults("a fifth byte of 15", Kit.module(1, 5, Kit.bytes(0x80, 0x80, 0x80, 0x80, 15)), 2, 15);
        Kit.faults("cut", Kit.module(1, 2, 0x80, 0x80), 2, 12);
        Kit.faults("a size of six bytes", Kit.module(1, Kit.bytes(0x80, 0x80, 0x80, 0x80, 0x80, 0)), 3, 13);
    }

    private static byte[] shortNumber(int... number) {
        return Kit.module(Kit.section(6, 1, 127, 0, 0x41, Kit.bytes(number), 11));
    }

    private static byte[] longNumber(int... number) {
        return Kit.module(Kit.section(6, 1, 126, 0, 0x42, Kit.bytes(number), 11));
    }

    private static void variableIs(String what, byte[] module, long due) {
        StackHost x = new StackHost();
        Kit.same(what, x.variable(Kit.instance(x, module), 0), due);
    }

    private static void signedNumbers() {
        // The number begins at place 14.
        variableIs("63", shortNumber(63), 63);
        variableIs("-64", shortNumber(64), 0xFFFFFFC0L);
        variableIs("-1 long", shortNumber(0xFF, 0xFF, 0xFF, 0xFF, 127), 0xFFFFFFFFL);
        variableIs("0 long", shortNumber(0x80, 0x80, 0x80, 0x80, 0), 0);
        variableIs("the greatest", shortNumber(0xFF, 0xFF, 0xFF, 0xFF, 7), 0x7FFFFFFFL);
        variableIs("the least", shortNumber(0x80, 0x80, 0x80, 0x80, 120), 0x80000000L);
        variableIs("two bytes with a sign", shortNumber(0x80, 0x7F), 0xFFFFFF80L);
        variableIs("four bytes with a sign", shortNumber(0x80, 0x80, 0x80, 0x40), 0xF8000000L);
        Kit.faults("a fifth byte of 8", shortNumber(0x80, 0x80, 0x80, 0x80, 8), 3, 18);
        Kit.faults("a fifth byte of 119", shortNumber(0x80, 0x80, 0x80, 0x80, 119), 3, 18);
        Kit.faults("a fifth byte of 128", shortNumber(0x80, 0x80, 0x80, 0x80, 128, 0), 3, 18);
        Kit.faults("a fifth byte of 255", shortNumber(0x80, 0x80, 0x80, 0x80, 255, 0), 3, 18);
        variableIs("long 63", longNumber(63), 63);
        variableIs("long -64", longNumber(64), -64);
        variableIs("long of two bytes", longNumber(0x80, 0x40), -8192);
        variableIs("long of five bytes", longNumber(0xFF, 0xFF, 0xFF, 0xFF, 0x0F), 0xFFFFFFFFL);
        variableIs("long of nine bytes", longNumber(0x80, 0x80, 0x80, 0x80, 0x80, 0x80, 0x80, 0x80, 0x40), -1L << 62);
        variableIs("long, the least", longNumber(0x80, 0x80, 0x80, 0x80, 0x80, 0x80, 0x80, 0x80, 0x80, 0x7F),
                Long.MIN_VALUE);
        variableIs("long, the greatest", longNumber(0xFF, 0xFF, 0xFF, 0xFF, 0xFF, 0xFF, 0xFF, 0xFF, 0xFF, 0),
                Long.MAX_VALUE);
        for (int last : new int[] {1, 2, 63, 64, 126, 128, 255}) {
            Kit.faults("a tenth byte of " + last,
                    longNumber(0x80, 0x80, 0x80, 0x80, 0x80, 0x80, 0x80, 0x80, 0x80, last, 0), 3, 23);
        }
        Kit.faults("cut by the section", Kit.module(6, 6, 1, 127, 0, 0x41, 0x80, 0x80, 0, 11), 2, 16);
        variableIs("four bytes", Kit.module(Kit.section(6, 1, 125, 0, 0x43, 1, 2, 3, 0x84, 11)), 0x84030201L);
        variableIs("eight bytes", Kit.module(Kit.section(6, 1, 124, 0, 0x44, 1, 2, 3, 4, 5, 6, 7, 0x88, 11)),
                0x8807060504030201L);
        Kit.faults("three bytes of four", Kit.module(6, 7, 1, 125, 0, 0x43, 1, 2, 3), 2, 17);
        Kit.faults("seven bytes of eight", Kit.module(6, 11, 1, 124, 0, 0x44, 1, 2, 3, 4, 5, 6, 7), 2, 21);
    }

    private static byte[] named(int... name) {
        return Kit.module(Kit.section(0, Kit.sized(Kit.bytes(name))));
    }

    private static void names() {
        // A name's bytes begin at place 11.
        int[][] good = {{}, {0}, {127}, {194, 128}, {223, 191}, {224, 160, 128}, {224, 191, 191}, {225, 128, 128},
            {236, 191, 191}, {237, 128, 128}, {237, 159, 191}, {238, 128, 128}, {239, 191, 191}, {240, 144, 128, 128},
            {240, 191, 191, 191}, {241, 128, 128, 128}, {243, 191, 191, 191}, {244, 128, 128, 128},
            {244, 143, 191, 191}, {65, 194, 128, 65, 226, 130, 172, 240, 159, 152, 128}};
        for (int[] name : good) {
            Kit.valid("name " + java.util.Arrays.toString(name), named(name));
        }
        int[][] bad = {{128}, {191}, {192, 128}, {193, 191}, {194}, {194, 127}, {194, 192}, {224, 159, 128},
            {224, 160}, {224, 160, 127}, {224, 160, 192}, {225, 127, 128}, {237, 160, 128}, {237, 159}, {240, 143, 128, 128},
            {240, 144, 128}, {240, 144, 127, 128}, {240, 144, 128, 192}, {244, 144, 128, 128}, {245, 128, 128, 128},
            {248, 128, 128, 128}, {255}, {254}, {241, 192, 128, 128}};
        for (int[] name : bad) {
            Kit.faults("name " + java.util.Arrays.toString(name), named(name), 4, 11);
            int[] behind = new int[name.length + 3];
            behind[0] = 65;
            behind[1] = 195;
            behind[2] = 164;
            System.arraycopy(name, 0, behind, 3, name.length);
            Kit.faults("name " + java.util.Arrays.toString(behind), named(behind), 4, 14);
        }
        Kit.faults("the bytes are there first", Kit.module(0, 3, 3, 255, 255), 2, 13);
        Kit.faults("a group does not reach beyond its name", Kit.module(0, 4, 1, 194, 128, 0), 4, 11);
        Kit.faults("an export's name", Kit.module(7, 4, 1, 1, 255, 0), 4, 12);
        Kit.faults("an import's second name", Kit.module(2, 6, 1, 0, 1, 200, 0, 0), 4, 13);
    }

    private static void types() {
        Kit.valid("types", Kit.module(Kit.sectionOf(1, Kit.type(Kit.of(127, 126, 125, 124)), Kit.type(Kit.of(), 124))));
        Kit.faults("not 96", Kit.module(1, 4, 1, 95, 0, 0), 5, 11);
        Kit.faults("a parameter of 123", Kit.module(1, 5, 1, 96, 1, 123, 0), 5, 13);
        Kit.faults("a parameter of 128", Kit.module(1, 5, 1, 96, 1, 128, 0), 5, 13);
        Kit.faults("a parameter of 64", Kit.module(1, 5, 1, 96, 1, 64, 0), 5, 13);
        Kit.faults("a result of 0", Kit.module(1, 5, 1, 96, 0, 1, 0), 5, 14);
        Kit.faults("a huge row", Kit.module(1, Kit.count(8), 1, 96, Kit.count(0xFFFFFFFFL), 127), 2, 18);
        Kit.faults("a huge row of types", Kit.module(1, Kit.count(8), Kit.count(0xFFFFFFFFL), 96, 0, 0), 2, 18);
    }

    private static void importsAndLimits() {
        Kit.faults("kind 4", Kit.module(2, 5, 1, 0, 0, 4, 0), 5, 13);
        Kit.faults("no kind", Kit.module(2, 3, 1, 0, 0), 2, 13);
        Kit.faults("a table not of 112", Kit.module(2, 7, 1, 0, 0, 1, 111, 0, 0), 5, 14);
        Kit.faults("a table's limits", Kit.module(2, 7, 1, 0, 0, 1, 112, 2, 0), 5, 15);
        Kit.faults("a memory's limits", Kit.module(2, 6, 1, 0, 0, 2, 2, 0), 5, 14);
        Kit.faults("no most", Kit.module(2, 6, 1, 0, 0, 2, 1, 0), 2, 16);
        Kit.faults("a variable's type", Kit.module(2, 6, 1, 0, 0, 3, 64, 0), 5, 14);
        Kit.faults("a variable that is 2", Kit.module(2, 6, 1, 0, 0, 3, 127, 2), 5, 15);
        Kit.faults("section 4, not 112", Kit.module(4, 4, 1, 113, 0, 0), 5, 11);
        Kit.faults("section 4, limits", Kit.module(4, 4, 1, 112, 5, 0), 5, 12);
        Kit.faults("section 5, limits", Kit.module(5, 3, 1, 255, 0), 5, 11);
        Kit.faults("section 6, type", Kit.module(6, 6, 1, 112, 0, 0x41, 0, 11), 5, 11);
        Kit.faults("section 6, changing", Kit.module(6, 6, 1, 127, 3, 0x41, 0, 11), 5, 12);
        Kit.valid("limits", Kit.module(4, 5, 1, 112, 1, 3, 4, 5, 4, 1, 1, 2, 2));
    }

    private static void exportsElementsData() {
        Kit.faults("an export of kind 4", Kit.module(7, 4, 1, 0, 4, 0), 5, 12);
        Kit.faults("an export without a number", Kit.module(7, 3, 1, 0, 0), 2, 13);
        Kit.faults("elements cut", Kit.module(9, 6, 1, 0, 0x41, 0, 11, 1), 2, 16);
        Kit.faults("elements without an end", Kit.module(9, 4, 1, 0, 0x41, 0), 2, 14);
        Kit.faults("data cut", Kit.module(11, 7, 1, 0, 0x41, 0, 11, 2, 9), 2, 17);
        Kit.faults("data of a huge length", Kit.module(11, 11, 1, 0, 0x41, 0, 11, Kit.count(0xFFFFFFFFL), 9), 2, 21);
        Kit.faults("data left over", Kit.module(11, 8, 1, 0, 0x41, 0, 11, 1, 9, 8), 7, 17);
    }

    private static byte[] withBody(Object... body) {
        // The body's size stands at place 21, its first byte at 22.
        return Kit.module(Kit.sectionOf(1, VOID_TYPE), 3, 2, 1, 0, Kit.section(10, 1, Kit.sized(body)));
    }

    private static void bodies() {
        Kit.valid("a body", withBody(0, 11));
        Kit.faults("a body of nothing", withBody(), 2, 22);
        Kit.faults("a body without an end", withBody(0, 1), 2, 24);
        Kit.faults("a body with more", withBody(0, 11, 11), 7, 24);
        Kit.faults("a body with more, though it is no instruction", withBody(0, 11, 255), 7, 24);
        Kit.faults("a body that goes beyond", Kit.module(Kit.sectionOf(1, VOID_TYPE), 3, 2, 1, 0, 10, 4, 1, 3, 0, 11),
                2, 24);
        Kit.faults("a body beyond, its content at fault", Kit.module(Kit.sectionOf(1, VOID_TYPE), 3, 2, 1, 0, 10, 4, 1,
                3, 0, 255), 2, 24);
        Kit.faults("a body cuts its count", Kit.module(Kit.sectionOf(1, VOID_TYPE), 3, 2, 1, 0, 10, 7, 1, 3, 0, 0x10,
                0x80, 0, 11), 2, 25);
        Kit.faults("locals of no type", withBody(1, 1, 64, 11), 5, 24);
        Kit.valid("1000 locals", withBody(1, Kit.count(1000), 127, 11));
        Kit.faults("1001 locals", withBody(1, Kit.count(1001), 127, 11), 9, 23);
        Kit.faults("1001 locals of no type", withBody(1, Kit.count(1001), 1, 11), 9, 23);
        Kit.faults("1001 locals, cut", withBody(1, Kit.count(1001)), 9, 23);
        Kit.faults("1000 locals of no type", withBody(1, Kit.count(1000), 1, 11), 5, 25);
        Kit.faults("1000 and 1", withBody(2, Kit.count(1000), 127, 1, 126, 11), 9, 26);
        Kit.valid("1000 and 0", withBody(2, Kit.count(1000), 127, 0, 126, 11));
        Kit.valid("0 and 1000", withBody(2, 0, 127, Kit.count(1000), 126, 11));
        Kit.faults("2 to the power of 32, less 1", withBody(1, Kit.count(0xFFFFFFFFL), 127, 11), 9, 23);
        Kit.faults("many and many", withBody(2, Kit.count(0xFFFFFFFFL), 127, 2, 127, 11), 9, 23);
    }

    private static byte[] repeated(int times, int... bytes) {
        byte[] out = new byte[times * bytes.length];
        for (int k = 0; k < out.length; k++) {
            out[k] = (byte) bytes[k % bytes.length];
        }
        return out;
    }

    private static void expressions() {
        // A body's instructions begin at place 23.
        Kit.faults("0x05 in a body", withBody(0, 5, 11), 5, 23);
        Kit.faults("0x05 in 0x02", withBody(0, 2, 64, 5, 11, 11), 5, 25);
        Kit.faults("0x05 in 0x03", withBody(0, 3, 64, 5, 11, 11), 5, 25);
        Kit.faults("0x05 twice", withBody(0, 0x41, 0, 4, 64, 5, 5, 11, 11), 5, 28);
        Kit.faults("0x05 behind a closed one", withBody(0, 0x41, 0, 4, 64, 11, 5, 11), 5, 28);
        Kit.faults("0x05 in 0x02 in 0x04", withBody(0, 0x41, 0, 4, 64, 2, 64, 5, 11, 11, 11), 5, 29);
        Kit.valid("0x05 in 0x04 in 0x05 of 0x04",
                withBody(0, 0x41, 0, 4, 64, 5, 0x41, 0, 4, 64, 5, 11, 11, 11));
        Kit.faults("0x05 again behind an inner one", withBody(0, 0x41, 0, 4, 64, 5, 0x41, 0, 4, 64, 5, 11, 5, 11, 11), 5,
                34);
        Kit.faults("0x02 with 0", withBody(0, 2, 0, 11, 11), 5, 24);
        Kit.faults("0x03 with 123", withBody(0, 3, 123, 11, 11), 5, 24);
        Kit.faults("0x04 with 128", withBody(0, 4, 128, 11, 11), 5, 24);
        Kit.faults("0x02 is not closed", withBody(0, 2, 64, 11), 2, 26);
        for (int opener = 2; opener <= 3; opener++) {
            Kit.valid("200 open", longBody(repeated(200, opener, 64), repeated(200, 11)));
            Kit.faults("201 open", longBody(repeated(201, opener, 64), repeated(201, 11)), 10, 25 + 400);
            Kit.faults("201 open, with no type", longBody(repeated(200, opener, 64), Kit.bytes(opener, 0)), 10, 25 + 400);
        }
        Kit.valid("200 open, again and again", longBody(repeated(199, 2, 64), repeated(3, 2, 64, 11), repeated(199, 11)));
        Kit.faults("in section 6", Kit.module(Kit.section(6, 1, 127, 0, repeated(201, 2, 64))), 10, 14 + 400);
        Kit.faults("an expression ends at its own end", Kit.module(6, 7, 1, 127, 0, 0x41, 0, 11, 11), 7, 16);
    }

    /** The section's size and the body's take two bytes each here, so the instructions begin at place 25. */
    private static byte[] longBody(byte[]... code) {
        byte[] body = Kit.join(0, Kit.join((Object[]) code), 11);
        byte[] module = Kit.module(Kit.sectionOf(1, VOID_TYPE), 3, 2, 1, 0, Kit.section(10, 1, Kit.sized(body)));
        int at = module.length - body.length + 1;
        if (at != 25) {
            Kit.same("where the code of a long body begins", at, 25);
        }
        return module;
    }

    private static void instructions() {
        for (int op = 0; op < 256; op++) {
            if (!isInstruction(op)) {
                Kit.faults("instruction " + op, withBody(0, op, 0, 0, 0, 0, 0, 11), 5, 23);
            }
        }
        Kit.faults("0x11 with 1", withBody(0, 0x11, 0, 1, 11), 5, 25);
        Kit.faults("0x11 cut", withBody(0, 0x11, 0), 2, 25);
        Kit.faults("0x3F with 1", withBody(0, 0x3F, 1, 11), 5, 24);
        Kit.faults("0x40 with 128", withBody(0, 0x40, 128, 0, 11), 5, 24);
        Kit.faults("0x28 cut", withBody(0, 0x28, 2), 2, 25);
        Kit.faults("0x3E with a wrong count", withBody(0, 0x3E, 0, 128, 128, 128, 128, 16), 3, 29);
        Kit.faults("0x0E cut", withBody(0, 0x0E, 2, 0, 0), 2, 27);
        Kit.faults("0x0E huge", withBody(0, 0x0E, Kit.count(0xFFFFFFFFL), 0, 0), 2, 31);
        Kit.valid("0x0E of none", withBody(0, 0x41, 0, 0x0E, 0, 0, 11));
        Kit.valid("counts written longer", withBody(0, 0x0C, 0x80, 0x80, 0, 11));
    }

    private static boolean isInstruction(int op) {
        return op <= 5 || op == 0x0B || op >= 0x0C && op <= 0x11 || op == 0x1A || op == 0x1B || op >= 0x20 && op <= 0x24
                || op >= 0x28 && op <= 0xBF;
    }

    private static void loading() {
        StackHost x = new StackHost();
        byte[] empty = Kit.module();
        Kit.same("load", Kit.load(x, Kit.module(12)), -1);
        Kit.same("fault(0)", x.fault(0), 5);
        for (int k = 0; k < 64; k++) {
            Kit.same("load", Kit.load(x, empty), k);
        }
        Kit.same("fault(0) after one that is right", x.fault(0), 0);
        Kit.feed(x, empty);
        Kit.illegalState("load of the 65th", x::load);
        Kit.same("the tape is as it was", x.feed(0, 0, 0, 0, 0), 28);
        Kit.outside("fault(2)", () -> x.fault(2));
        Kit.outside("fault(-1)", () -> x.fault(-1));

        StackHost y = new StackHost();
        Kit.load(y, Kit.module(12));
        Kit.same("a faulty load takes no number", Kit.load(y, empty), 0);
        Kit.load(y, Kit.module(12));
        Kit.same("fault(0)", y.fault(0), 5);
        Kit.same("fault(1)", y.fault(1), 8);
        y.instantiate(0);
        Kit.same("fault(0) after instantiate", y.fault(0), 0);
        Kit.same("fault(1) after instantiate", y.fault(1), 0);
        Kit.load(y, Kit.module(12));
        Kit.outside("instantiate(1)", () -> y.instantiate(1));
        Kit.same("what throws changes no fault", y.fault(0), 5);
    }
}
