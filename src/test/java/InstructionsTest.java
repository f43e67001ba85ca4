import java.util.Arrays;

/** Part 4 of the terms, sentence by sentence: all instructions but those that reckon (NumberEdgesTest, NumbersTest). */
public final class InstructionsTest {
    private static final int I = Kit.I;
    private static final int L = Kit.L;
    private static final int F = Kit.F;
    private static final int D = Kit.D;
    private static final int DROP = 0x1A;
    private static final byte[] VOID_TYPE = Kit.type(Kit.of());

    public static void main(String[] args) {
        whatIsWritten();
        otherBytes();
        constants();
        dropAndSelect();
        localsAndVariables();
        nothingAndTrap();
        openings();
        elsesAndEnds();
        branchesToLoops();
        branchesOut();
        branchesOutOfTheBody();
        branchesIf();
        branchesAmong();
        returns();
        calls();
        elementsThere();
        elementsOfAType();
        parametersAreTaken();
        hostCalls();
        fullOut();
        deepCalls();
        manyValues();
        newCalls();
        resultsArePut();
        Kit.close();
    }

    private static int instanceOf(StackHost x, byte[] type, Object... code) {
        return Kit.instance(x, Kit.single(type, Kit.body(code)));
    }

    /** What a function without arguments gives. */
    private static void gives(String what, int type, long due, Object... code) {
        StackHost x = new StackHost();
        int made = instanceOf(x, Kit.type(Kit.of(), type), code);
        Kit.same(what + ", run", Kit.callOf(x, made, 0), 0);
        Kit.same(what, x.result(), due);
        Kit.same(what + ", calls", x.calls(), 0);
    }

    private static void trapIs(String what, StackHost x, int code, int instance, int function, int place) {
        Kit.same(what + ", trap(0)", x.trap(0), code);
        Kit.same(what + ", trap(1)", x.trap(1), instance);
        Kit.same(what + ", trap(2)", x.trap(2), function);
        Kit.same(what + ", trap(3)", x.trap(3), place);
        Kit.same(what + ", calls()", x.calls(), 0);
    }

    private static byte[] imported(String instance, String export, int... what) {
        return Kit.join(Kit.text(instance), Kit.text(export), Kit.bytes(what));
    }

    private static void whatIsWritten() {
        Kit.sentence("An instruction is a byte, and what is written with it");
        // Each instruction, with what is written with it, stands in dead code, so that its operands need not be there.
        byte[] head = Kit.module(Kit.sectionOf(1, Kit.type(Kit.of(I))), 3, 2, 1, 0, 4, 4, 1, 112, 0, 0, 5, 3, 1, 0, 0,
                Kit.section(6, 1, I, 1, Kit.i32(0), 11));
        for (int op = 0; op < 256; op++) {
            byte[] written = writtenWith(op);
            if (written != null) {
                byte[] code = Kit.join(0, op, written, 0, 0x0F);
                Kit.valid("instruction " + op, Kit.join(head, Kit.section(10, 1, Kit.body(code))));
                for (int cut = 0; cut < written.length; cut++) {
                    byte[] module = Kit.join(head, Kit.section(10, 1, Kit.sized(0, op, Arrays.copyOf(written, cut))));
                    Kit.faults("instruction " + op + " with " + cut + " bytes", module, 2, module.length);
                }
            }
        }
    }

    /** What can be written with an instruction; null if it is none, or opens or closes. */
    private static byte[] writtenWith(int op) {
        boolean count = op == 0x0C || op == 0x0D || op == 0x10 || op >= 0x20 && op <= 0x24;
        boolean nothing = op <= 1 || op == 0x0F || op == 0x1A || op == 0x1B || op >= 0x45 && op <= 0xBF;
        if (count) {
            return Kit.bytes(0x80, 0);
        }
        if (nothing) {
            return Kit.bytes();
        }
        switch (op) {
            case 0x0E: return Kit.bytes(0x82, 0, 0, 0x80, 0, 0);
            case 0x11: return Kit.bytes(0x80, 0, 0);
            case 0x3F: case 0x40: return Kit.bytes(0);
            case 0x41: return Kit.bytes(0xFF, 0xFF, 0x7F);
            case 0x42: return Kit.bytes(0xFF, 0xFF, 0xFF, 0xFF, 0xFF, 0xFF, 0x7F);
            case 0x43: return new byte[4];
            case 0x44: return new byte[8];
            default: return op >= 0x28 && op <= 0x3E ? Kit.bytes(0x80, 0, 0xFF, 0x7F) : null;
        }
    }

    private static void otherBytes() {
        Kit.sentence("All other bytes are none (fault 5).");
        for (int op = 0; op < 256; op++) {
            boolean opens = op >= 2 && op <= 5 || op == 0x0B;
            if (!opens && writtenWith(op) == null) {
                // A body's instructions begin at place 23.
                Kit.faults("byte " + op, Kit.module(Kit.sectionOf(1, VOID_TYPE), 3, 2, 1, 0,
                        Kit.section(10, 1, Kit.body(op))), 5, 23);
                Kit.faults("byte " + op + " behind another", Kit.module(Kit.sectionOf(1, VOID_TYPE), 3, 2, 1, 0,
                        Kit.section(10, 1, Kit.body(1, op, op))), 5, 24);
                Kit.faults("byte " + op + " in section 6", Kit.module(Kit.section(6, 1, I, 0, op, 11)), 5, 13);
            }
        }
    }

    private static void constants() {
        Kit.sentence("0x41 .. 0x44 put the number that is written: I, L, F, D.");
        for (int number : new int[] {0, 1, -1, 63, 64, -64, -65, Integer.MAX_VALUE, Integer.MIN_VALUE}) {
            gives("0x41", I, number & 0xFFFFFFFFL, Kit.i32(number));
        }
        for (long number : new long[] {0, 1, -1, 63, 64, -64, -65, 0x123456789ABCDEFL, Integer.MIN_VALUE, 1L << 31,
                1L << 32, Long.MAX_VALUE, Long.MIN_VALUE}) {
            gives("0x42", L, number, Kit.i64(number));
        }
        for (long bits : new long[] {0, 0x80000000L, 0x3F800000L, 0x7F800001L, 0xFFFFFFFFL}) {
            gives("0x43", F, bits, 0x43, Kit.plain(bits, 4));
        }
        for (long bits : new long[] {0, Long.MIN_VALUE, 0x3FF0000000000000L, 0x7FF0000000000001L, -1}) {
            gives("0x44", D, bits, 0x44, Kit.plain(bits, 8));
        }
    }

    private static void dropAndSelect() {
        Kit.sentence("0x1A: nothing. 0x1B: takes c (I), b, a; puts a, if c is not 0, else b.");
        gives("0x1A takes one", I, 1, Kit.i32(1), Kit.i32(2), DROP);
        gives("0x1B with 1", I, 1, Kit.i32(1), Kit.i32(2), Kit.i32(1), 0x1B);
        gives("0x1B with 0", I, 2, Kit.i32(1), Kit.i32(2), Kit.i32(0), 0x1B);
        gives("0x1B with the least", I, 1, Kit.i32(1), Kit.i32(2), Kit.i32(Integer.MIN_VALUE), 0x1B);
        gives("0x1B of L", L, -2, Kit.i64(-1), Kit.i64(-2), Kit.i32(0), 0x1B);
        gives("0x1B of D", D, Double.doubleToRawLongBits(2), Kit.f64(1), Kit.f64(2), Kit.i32(0), 0x1B);
        gives("0x1B leaves what is below", I, 11, Kit.i32(10), Kit.i32(1), Kit.i32(2), Kit.i32(1), 0x1B, 0x6A);
    }

    private static void localsAndVariables() {
        Kit.sentence("0x20 .. 0x24: a local, or a variable, is put, set, set and put again; put, set.");
        StackHost x = new StackHost();
        int made = Kit.instance(x, Kit.module(Kit.sectionOf(1, Kit.type(Kit.of(I, I), I)), 3, 6, 5, 0, 0, 0, 0, 0,
                Kit.section(6, 2, I, 1, Kit.i32(5), 11, I, 1, Kit.i32(6), 11), Kit.sectionOf(7, Kit.export("a", 0, 0),
                Kit.export("b", 0, 1), Kit.export("c", 0, 2), Kit.export("d", 0, 3), Kit.export("e", 0, 4)),
                Kit.sectionOf(10, Kit.body(0x20, 1, 0x20, 0, 0x6B), Kit.body(0x20, 0, 0x21, 1, 0x20, 1),
                Kit.body(0x20, 0, 0x22, 1, 0x20, 1, 0x6A), Kit.body(0x23, 1, 0x23, 0, 0x6B),
                Kit.body(0x20, 0, 0x24, 1, 0x23, 1))));
        long[] due = {100, 7, 14, 1, 7};
        for (int k = 0; k < due.length; k++) {
            Kit.same("run", Kit.callOf(x, made, k, 7, 107), 0);
            Kit.same("function " + k, x.result(), due[k]);
        }
        Kit.same("a variable that was set", x.variable(made, 1), 7);
        Kit.same("one that was not", x.variable(made, 0), 5);
        int wide = Kit.instance(x, Kit.single(Kit.type(Kit.of(), I), Kit.bodyWith(300, I, Kit.i32(9), 0x21,
                Kit.count(299), 0x20, Kit.count(298), 0x20, Kit.count(299), 0x6A)));
        Kit.callOf(x, wide, 0);
        Kit.same("a local of a high number", x.result(), 9);
    }

    private static void nothingAndTrap() {
        Kit.sentence("0x01: nothing. 0x00: trap 1.");
        gives("0x01", I, 4, 1, Kit.i32(4), 1);
        StackHost x = new StackHost();
        byte[] module = Kit.single(VOID_TYPE, Kit.body(1, 2, 64, 0, 11));
        int made = Kit.instance(x, module);
        Kit.same("run", Kit.callOf(x, made, 0), 1);
        trapIs("0x00", x, 1, 0, 0, module.length - 3);
    }

    private static void openings() {
        Kit.sentence("0x02 and 0x03 open, and so does 0x04 if the I that it takes is not 0; else it goes on behind "
                + "its 0x05 (which opens then), or, without one, behind its end.");
        gives("0x02", I, 5, 2, I, Kit.i32(5), 11);
        gives("0x03", I, 5, 3, I, Kit.i32(5), 11);
        gives("0x04 with -1", I, 1, Kit.i32(-1), 4, I, Kit.i32(1), 5, Kit.i32(2), 11);
        gives("0x04 with 1", I, 1, Kit.i32(1), 4, I, Kit.i32(1), 5, Kit.i32(2), 11);
        gives("0x04 with 0", I, 2, Kit.i32(0), 4, I, Kit.i32(1), 5, Kit.i32(2), 11);
        gives("0x04 without 0x05, 0", I, 3, Kit.i32(0), 4, 64, 0, 11, Kit.i32(3));
        gives("0x04 without 0x05, 1", I, 4, Kit.i32(1), 4, 64, Kit.i32(4), 0x0F, 11, Kit.i32(3));
        gives("0x04 in 0x05", I, 5, Kit.i32(0), 4, I, Kit.i32(1), 5, Kit.i32(0), 4, I, Kit.i32(4), 5, Kit.i32(5), 11,
                11);
        gives("behind 0x05 it is open: 0x0C 0 leaves it", I, 6, Kit.i32(0), 4, I, Kit.i32(2), 5, Kit.i32(6), 0x0C, 0,
                11);
        gives("behind its end it is not: 0x0C 0 leaves the one outside", I, 7, 2, I, Kit.i32(0), 4, 64, 11, Kit.i32(7),
                0x0C, 0, 11);
        gives("0x04 in 0x04, each without 0x05", I, 8, Kit.i32(0), 4, 64, Kit.i32(1), 4, 64, 0, 11, 0, 11, Kit.i32(8));
    }

    private static void elsesAndEnds() {
        Kit.sentence("At 0x05 it goes to the end of what is open; an end closes it.");
        gives("what is behind 0x05 is left out", I, 1, Kit.i32(1), 4, I, Kit.i32(1), 5, 0, 11);
        gives("and what is behind the end is not", I, 11, Kit.i32(1), 4, I, Kit.i32(1), 5, 0, 11, Kit.i32(10), 0x6A);
        gives("an inner one behind 0x05 is left out, too", I, 3, Kit.i32(1), 4, 64, 5, Kit.i32(1), 4, 64, 0, 5, 0, 11,
                11, Kit.i32(3));
        gives("a closed one is no label", I, 9, 2, I, 2, 64, 11, Kit.i32(9), 0x0C, 0, 11);
    }

    private static void branchesToLoops() {
        Kit.sentence("0x0C goes to its label's thing: if that was opened by 0x03, to just behind 0x03, with no "
                + "operands above its height, open still");
        // Each turn leaves two operands above the loop's height; the operand below it is needed when all is done.
        StackHost x = new StackHost();
        int made = Kit.instance(x, Kit.single(Kit.type(Kit.of(I), I), Kit.bodyWith(1, I, Kit.i32(1000), 3, I, 0x20, 1,
                Kit.i32(1), 0x6A, 0x21, 1, Kit.i32(7), Kit.i32(8), 0x20, 1, 0x20, 0, 0x49, 4, 64, 0x0C, 1, 11, 0x6A, 11,
                0x6A, 0x20, 1, 0x6A)));
        for (int turns : new int[] {1, 2, 3, 50, 30000}) {
            Kit.same("run", Kit.callOf(x, made, 0, turns), 0);
            Kit.same("result", x.result(), 1015 + turns);
        }
        int inner = Kit.instance(x, Kit.single(Kit.type(Kit.of(I), I), Kit.bodyWith(1, I, 3, 64, 2, 64, 0x20, 1,
                Kit.i32(1), 0x6A, 0x22, 1, 0x20, 0, 0x49, 0x0D, 1, 11, 11, 0x20, 1)));
        Kit.same("run", Kit.callOf(x, inner, 0, 9), 0);
        Kit.same("from further in", x.result(), 9);
    }

    private static void branchesOut() {
        Kit.sentence("else to behind its end, closed, with the value of its label type, which is taken first, alone "
                + "above its height");
        gives("0x02", I, 7, 2, I, Kit.i32(7), 0x0C, 0, Kit.i32(9), 11);
        gives("0x02, two out", I, 7, 2, I, 2, I, Kit.i32(7), 0x0C, 1, 11, DROP, Kit.i32(8), 11);
        gives("0x04", I, 6, Kit.i32(1), 4, I, Kit.i32(6), 0x0C, 0, 5, Kit.i32(2), 11);
        gives("0x05", I, 6, Kit.i32(0), 4, I, Kit.i32(2), 5, Kit.i32(6), 0x0C, 0, 11);
        gives("0x04 without 0x05", I, 5, Kit.i32(1), 4, 64, 0x0C, 0, 11, Kit.i32(5));
        gives("0x02 in 0x04 with 0x05", I, 6, Kit.i32(1), 4, I, 2, 64, Kit.i32(6), 0x0C, 1, 11, Kit.i32(1), 5,
                Kit.i32(2), 11);
        gives("what is below the height stays", I, 103, Kit.i32(100), 2, I, Kit.i32(1), Kit.i32(2), Kit.i32(3), 0x0C, 0,
                11, 0x6A);
        gives("without a value all above goes", I, 100, Kit.i32(100), 2, 64, Kit.i32(1), Kit.i32(2), 0x0C, 0, 11);
        gives("it is closed", I, 4, 2, I, 2, 64, 0x0C, 0, 11, Kit.i32(4), 0x0C, 0, 11);
        gives("a value of L", L, -3, Kit.i32(1), 2, L, Kit.i32(2), Kit.i64(-3), 0x0C, 0, 11, 0x0F);
        gives("what is between goes", I, 103, Kit.i32(100), 2, I, Kit.i32(1), 2, 64, Kit.i32(2), Kit.i32(3), 0x0C, 1,
                11, 11, 0x6A);
    }

    private static void branchesOutOfTheBody() {
        Kit.sentence("the body's own label ends the call with its result");
        gives("0x0C to the body", I, 7, 2, I, Kit.i32(7), 0x0C, 1, 11, DROP, Kit.i32(8));
        gives("its value alone", I, 3, Kit.i32(1), Kit.i32(2), 2, I, Kit.i32(3), 0x0C, 1, 11, 0x6A, 0x6A);
        StackHost x = new StackHost();
        int made = Kit.instance(x, Kit.module(Kit.sectionOf(1, Kit.type(Kit.of(), I)), 3, 3, 2, 0, 0,
                Kit.sectionOf(7, Kit.export("f", 0, 0)), Kit.sectionOf(10, Kit.body(Kit.i32(50), 0x10, 1, 0x6A),
                        Kit.body(Kit.i32(1), Kit.i32(2), 3, 64, Kit.i32(3), 0x0C, 1, 11, 0))));
        Kit.same("run", Kit.callOf(x, made, 0), 0);
        Kit.same("of a call within another", x.result(), 53);
    }

    private static void branchesIf() {
        Kit.sentence("0x0D does so if the I is not 0.");
        for (int given : new int[] {1, 5, -1, Integer.MIN_VALUE}) {
            gives("with " + given, I, 1, 2, I, Kit.i32(1), Kit.i32(given), 0x0D, 0, DROP, Kit.i32(2), 11);
        }
        gives("with 0", I, 2, 2, I, Kit.i32(1), Kit.i32(0), 0x0D, 0, DROP, Kit.i32(2), 11);
        gives("with 0 its value stays", I, 1, 2, I, Kit.i32(1), Kit.i32(0), 0x0D, 0, 11);
        gives("what is between goes", I, 103, Kit.i32(100), 2, I, Kit.i32(1), Kit.i32(3), Kit.i32(1), 0x0D, 0, 0x6A, 11,
                0x6A);
        gives("to the body", I, 3, Kit.i32(3), Kit.i32(1), 0x0D, 0, DROP, Kit.i32(4));
    }

    private static void branchesAmong() {
        Kit.sentence("0x0E takes an I (u): the label of that number of its row, or, if there is none, the last one.");
        StackHost x = new StackHost();
        byte[] among = Kit.join(2, 64, 2, 64, 2, 64, 0x20, 0, 0x0E, 2, 0, 1, 2, 11, Kit.i32(10), 0x0F, 11, Kit.i32(11),
                0x0F, 11, Kit.i32(12));
        int made = instanceOf(x, Kit.type(Kit.of(I), I), among);
        long[] given = {0, 1, 2, 3, 100, 0x7FFFFFFFL, 0x80000000L, 0xFFFFFFFFL};
        long[] due = {10, 11, 12, 12, 12, 12, 12, 12};
        for (int k = 0; k < given.length; k++) {
            Kit.callOf(x, made, 0, given[k]);
            Kit.same("0x0E of " + given[k], x.result(), due[k]);
        }
        int alone = instanceOf(x, Kit.type(Kit.of(I), I), 2, I, Kit.i32(5), 0x20, 0, 0x0E, 0, 0, 11);
        for (long n : new long[] {0, 1, 0xFFFFFFFFL}) {
            Kit.same("run", Kit.callOf(x, alone, 0, n), 0);
            Kit.same("an empty row, of " + n, x.result(), 5);
        }
        // Labels that are written with several bytes, and carry a value.
        int wide = instanceOf(x, Kit.type(Kit.of(I), I), 2, I, 2, I, Kit.i32(3), 0x20, 0, 0x0E, Kit.bytes(0x82, 0),
                Kit.bytes(0x80, 0x80, 0), 1, Kit.bytes(0x81, 0), 11, Kit.i32(10), 0x6A, 11);
        long[] wideDue = {13, 3, 3};
        for (int k = 0; k < 3; k++) {
            Kit.callOf(x, wide, 0, k);
            Kit.same("0x0E with long labels, of " + k, x.result(), wideDue[k]);
        }
        int body = instanceOf(x, Kit.type(Kit.of(I), I), Kit.i32(1), 2, I, Kit.i32(3), 0x20, 0, 0x0E, 1, 1, 0, 11,
                0x6A);
        Kit.callOf(x, body, 0, 0);
        Kit.same("the body's own label", x.result(), 3);
        Kit.callOf(x, body, 0, 1);
        Kit.same("the inner one", x.result(), 4);
    }

    private static void returns() {
        Kit.sentence("0x0F is 0x0C with the body's own label.");
        gives("from within", I, 7, 2, 64, 3, 64, Kit.i32(7), 0x0F, 11, 11, Kit.i32(8));
        gives("its value alone", L, 3, Kit.i32(1), Kit.i64(2), Kit.i64(3), 0x0F);
        StackHost x = new StackHost();
        int made = Kit.instance(x, Kit.module(Kit.sectionOf(1, Kit.type(Kit.of(), I)), 3, 3, 2, 0, 0,
                Kit.sectionOf(7, Kit.export("f", 0, 0)),
                Kit.sectionOf(10, Kit.body(Kit.i32(50), 0x10, 1, 0x6A), Kit.body(Kit.i32(1), Kit.i32(3), 0x0F))));
        Kit.same("run", Kit.callOf(x, made, 0), 0);
        Kit.same("of a call within another", x.result(), 53);
    }

    private static void calls() {
        Kit.sentence("0x10 calls a function.");
        StackHost x = new StackHost();
        int inner = Kit.instance(x, Kit.single(Kit.type(Kit.of(I), I), Kit.body(0x20, 0, Kit.i32(100), 0x6A)));
        Kit.name(x, inner, "in");
        int made = Kit.instance(x, Kit.module(Kit.sectionOf(1, Kit.type(Kit.of(I), I)),
                Kit.sectionOf(2, imported("in", "f", 0, 0)), 3, 3, 2, 0, 0, Kit.sectionOf(7, Kit.export("f", 0, 2)),
                Kit.sectionOf(10, Kit.body(0x20, 0, Kit.i32(10), 0x6A), Kit.body(0x20, 0, 0x10, 1, 0x10, 0))));
        Kit.same("run", Kit.callOf(x, made, 0, 1), 0);
        Kit.same("its own and an imported one", x.result(), 111);
    }

    private static byte[] elementCaller(int size, int... functions) {
        byte[] types = Kit.sectionOf(1, Kit.type(Kit.of(I), I), Kit.type(Kit.of(I), L), Kit.type(Kit.of(I), I),
                Kit.type(Kit.of(L), I), Kit.type(Kit.of(I, I), I), Kit.type(Kit.of(I)), Kit.type(Kit.of(), I));
        return Kit.module(types, Kit.section(3, 7, 2, 0, 1, 3, 4, 5, 6), Kit.section(4, 1, 112, 0, size),
                Kit.sectionOf(7, Kit.export("f", 0, 0)), Kit.section(9, 1, 0, Kit.i32(0), 11,
                Kit.sized(Kit.bytes(functions))), Kit.sectionOf(10, Kit.body(Kit.i32(41), 0x20, 0, 0x11, 2, 0),
                Kit.body(0x20, 0, Kit.i32(1), 0x6A), Kit.body(Kit.i64(5)), Kit.body(Kit.i32(5)), Kit.body(Kit.i32(5)),
                Kit.body(), Kit.body(Kit.i32(5))));
    }

    /** The place of 0x11 in the module above. */
    private static int elementCallPlace(byte[] module) {
        int at = module.length - 1;
        while (module[at] != 0x11) {
            at--;
        }
        return at;
    }

    private static void elementsThere() {
        Kit.sentence("0x11 takes an I (u): that element of the table (trap 6: there is none; 7: nothing is in it)");
        StackHost x = new StackHost();
        byte[] module = elementCaller(4, 1, 1);
        int made = Kit.instance(x, module);
        int place = elementCallPlace(module);
        for (long k : new long[] {0, 1}) {
            Kit.same("element " + k, Kit.callOf(x, made, 0, k), 0);
            Kit.same("41 + 1", x.result(), 42);
        }
        for (long k : new long[] {2, 3}) {
            Kit.same("element " + k, Kit.callOf(x, made, 0, k), 1);
            trapIs("nothing in it", x, 7, 0, 0, place);
        }
        for (long k : new long[] {4, 5, 0x7FFFFFFFL, 0x80000000L, 0xFFFFFFFFL}) {
            Kit.same("element " + k, Kit.callOf(x, made, 0, k), 1);
            trapIs("no element", x, 6, 0, 0, place);
        }
        int empty = Kit.instance(x, elementCaller(0));
        Kit.same("of an empty table", Kit.callOf(x, empty, 0, 0), 1);
        Kit.same("trap(0)", x.trap(0), 6);
        int other = Kit.instance(x, elementCaller(1, 1));
        Kit.same("not that of another table", Kit.callOf(x, other, 0, 1), 1);
        Kit.same("trap(0)", x.trap(0), 6);
    }

    private static void elementsOfAType() {
        Kit.sentence("a function whose type must have the parameters and results of the type that is written (trap "
                + "8): it is called");
        StackHost x = new StackHost();
        byte[] module = elementCaller(7, 0, 1, 2, 3, 4, 5, 6);
        int made = Kit.instance(x, module);
        Kit.same("another type of the same parameters and results", Kit.callOf(x, made, 0, 1), 0);
        Kit.same("it is called", x.result(), 42);
        for (int k = 2; k <= 6; k++) {
            Kit.same("element " + k, Kit.callOf(x, made, 0, k), 1);
            trapIs("another type, " + k, x, 8, 0, 0, elementCallPlace(module));
        }
        // A function of another instance, whose types have other numbers, and one of the host.
        byte[] table = Kit.module(Kit.sectionOf(1, Kit.type(Kit.of(L)), Kit.type(Kit.of(I))),
                Kit.sectionOf(2, imported("host", "i", 0, 1)), Kit.section(3, 1, 0), Kit.section(4, 1, 112, 0, 2),
                Kit.sectionOf(7, Kit.export("t", 1, 0)), Kit.section(9, 1, 0, Kit.i32(0), 11, 2, 0, 1),
                Kit.sectionOf(10, Kit.body()));
        Kit.name(x, Kit.instance(x, table), "t");
        byte[] caller = Kit.module(Kit.sectionOf(1, Kit.type(Kit.of(I))), Kit.sectionOf(2,
                imported("t", "t", 1, 112, 0, 0)), Kit.section(3, 1, 0), Kit.sectionOf(7, Kit.export("f", 0, 0)),
                Kit.sectionOf(10, Kit.body(Kit.i32(77), 0x20, 0, 0x11, 0, 0)));
        int calling = Kit.instance(x, caller);
        Kit.same("the host's", Kit.callOf(x, calling, 0, 0), 0);
        Kit.same("out(0)", x.out(0), 77);
        Kit.same("another's, of another type under the same number", Kit.callOf(x, calling, 0, 1), 1);
        Kit.same("trap(0)", x.trap(0), 8);
        Kit.same("trap(1) is the caller", x.trap(1), calling);
        byte[] wrong = Kit.module(Kit.sectionOf(1, Kit.type(Kit.of(I)), Kit.type(Kit.of(I), I)),
                Kit.sectionOf(2, imported("t", "t", 1, 112, 0, 0)), Kit.section(3, 1, 0),
                Kit.sectionOf(7, Kit.export("f", 0, 0)), Kit.sectionOf(10, Kit.body(Kit.i32(77), 0x20, 0, 0x11, 1, 0,
                DROP)));
        Kit.same("the host's with a result", Kit.callOf(x, Kit.instance(x, wrong), 0, 0), 1);
        Kit.same("trap(0)", x.trap(0), 8);
        Kit.same("nothing more is in OUT", x.outs(), 1);
    }

    private static void parametersAreTaken() {
        Kit.sentence("CALLING: the parameters are taken.");
        StackHost x = new StackHost();
        int made = Kit.instance(x, Kit.module(Kit.sectionOf(1, Kit.type(Kit.of(), I), Kit.type(Kit.of(I, I), I)), 3, 3,
                2, 0, 1, Kit.sectionOf(7, Kit.export("f", 0, 0)), Kit.sectionOf(10,
                Kit.body(Kit.i32(1000), Kit.i32(30), Kit.i32(7), 0x10, 1, 0x6A), Kit.body(0x20, 0, 0x20, 1, 0x6B))));
        Kit.same("run", Kit.callOf(x, made, 0), 0);
        Kit.same("in their order, and no more than they", x.result(), 1023);
    }

    private static void hostCalls() {
        Kit.sentence("A function of the host puts its parameter (its bits) into OUT");
        StackHost x = new StackHost();
        int made = Kit.instance(x, Kit.module( Kit.sectionOf(1, Kit.type(Kit.of(I)), Kit.type(Kit.of(L)),
                Kit.type(Kit.of(F)), Kit.type(Kit.of(D)), VOID_TYPE), Kit.sectionOf(2, imported("host", "i", 0, 0),
                imported("host", "l", 0, 1), imported("host", "f", 0, 2), imported("host", "d", 0, 3)),
                Kit.section(3, 1, 4), Kit.sectionOf(7, Kit.export("f", 0, 4)), Kit.sectionOf(10,
                Kit.body(Kit.i32(-2), 0x10, 0, Kit.i64(-3), 0x10, 1, 0x43, Kit.plain(0xFF800001L, 4), 0x10, 2, 0x44,
                Kit.plain(0xFFF0000000000001L, 8), 0x10, 3))));
        Kit.same("run", Kit.callOf(x, made, 0), 0);
        long[] due = {0xFFFFFFFEL, -3, 0xFF800001L, 0xFFF0000000000001L};
        Kit.same("outs", x.outs(), 4);
        for (int k = 0; k < 4; k++) {
            Kit.same("out(" + k + ")", x.out(k), due[k]);
        }
    }

    private static void fullOut() {
        Kit.sentence("trap 10 if there are 4096 already");
        StackHost y = new StackHost();
        byte[] many = Kit.module(Kit.sectionOf(1, Kit.type(Kit.of(I))), Kit.sectionOf(2, imported("host", "i", 0, 0)),
                3, 2, 1, 0, Kit.sectionOf(7, Kit.export("i", 0, 0), Kit.export("f", 0, 1)),
                Kit.sectionOf(10, Kit.body(3, 64, 0x20, 0, 0x10, 0, 0x20, 0, Kit.i32(1), 0x6B, 0x22, 0, 0x0D, 0, 11)));
        int counting = Kit.instance(y, many);
        Kit.same("4095", Kit.callOf(y, counting, 1, 4095), 0);
        Kit.same("the 4096th", Kit.callOf(y, counting, 0, 5), 0);
        Kit.same("outs", y.outs(), 4096);
        Kit.same("out(0)", y.out(0), 4095);
        Kit.same("out(4095)", y.out(4095), 5);
        Kit.same("the 4097th", Kit.callOf(y, counting, 1, 1), 1);
        trapIs("OUT is full", y, 10, 0, 1, many.length - 13);
        Kit.same("the 4097th, invoked", Kit.callOf(y, counting, 0, 1), 1);
        trapIs("OUT is full, and no call is open", y, 10, -1, -1, -1);
        Kit.same("outs", y.outs(), 4096);
        Kit.same("clear", y.clear(), 4096);
        Kit.same("run", Kit.callOf(y, counting, 0, 9), 0);
        Kit.same("out(0)", y.out(0), 9);
    }

    private static void deepCalls() {
        Kit.sentence("Another one: trap 9 if 200 calls are open");
        StackHost x = new StackHost();
        // Calls itself n times, then answers how often.
        byte[] module = Kit.single(Kit.type(Kit.of(I), I), Kit.body(0x20, 0, 0x45, 4, I, Kit.i32(0), 5, 0x20, 0,
                Kit.i32(1), 0x6B, 0x10, 0, Kit.i32(1), 0x6A, 11));
        int made = Kit.instance(x, module);
        Kit.same("200 calls", Kit.callOf(x, made, 0, 199), 0);
        Kit.same("result", x.result(), 199);
        Kit.same("201 calls", Kit.callOf(x, made, 0, 200), 1);
        trapIs("201 calls", x, 9, 0, 0, module.length - 7);
        x.push(250);
        x.invoke(made, 0);
        // Seven steps up to the call of the next one.
        Kit.same("run", x.run(7 * 199), 2);
        Kit.same("calls", x.calls(), 200);
        Kit.same("up to the call of the 201st", x.run(6), 2);
        Kit.same("calls", x.calls(), 200);
        Kit.same("that call", x.run(1), 1);
        Kit.same("trap(0)", x.trap(0), 9);
        // A function of the host opens no call.
        byte[] deep = Kit.module(Kit.sectionOf(1, Kit.type(Kit.of(I))), Kit.sectionOf(2, imported("host", "i", 0, 0)),
                Kit.section(3, 1, 0), Kit.sectionOf(7, Kit.export("f", 0, 1)), Kit.sectionOf(10,
                Kit.body(0x20, 0, 0x10, 0, 0x20, 0, 4, 64, 0x20, 0, Kit.i32(1), 0x6B, 0x10, 1, 11)));
        int putting = Kit.instance(x, deep);
        Kit.same("the host's is called with 200 open", Kit.callOf(x, putting, 0, 199), 0);
        Kit.same("outs", x.outs(), 200);
        Kit.same("one more", Kit.callOf(x, putting, 0, 200), 1);
        Kit.same("trap(0)", x.trap(0), 9);
    }

    /** So many times a constant, then as many drops. */
    private static byte[] tall(int n) {
        byte[] out = new byte[3 * n];
        for (int k = 0; k < n; k++) {
            out[2 * k] = 0x41;
            out[2 * n + k] = DROP;
        }
        return out;
    }

    private static void manyValues() {
        Kit.sentence("or if all locals and operands of the open calls (without what was taken), its own parameters "
                + "and locals, and its ROOM are together more than 16384");
        StackHost x = new StackHost();
        int fits = instanceOf(x, VOID_TYPE, tall(16384));
        Kit.same("a room of 16384", Kit.callOf(x, fits, 0), 0);
        int beyond = instanceOf(x, VOID_TYPE, tall(16385));
        x.invoke(beyond, 0);
        Kit.same("a room of 16385", x.run(0), 1);
        trapIs("a room of 16385", x, 9, -1, -1, -1);
        int locals = Kit.instance(x, Kit.single(Kit.type(Kit.of(I)), Kit.bodyWith(1000, L, tall(15384))));
        Kit.same("a parameter, 1000 locals and 15384", Kit.callOf(x, locals, 0, 1), 1);
        int fewer = Kit.instance(x, Kit.single(Kit.type(Kit.of(I)), Kit.bodyWith(1000, L, tall(15383))));
        Kit.same("a parameter, 1000 locals and 15383", Kit.callOf(x, fewer, 0, 1), 0);
        callsAbove(VOID_TYPE, 0);
        // The caller's locals count, too; its room does not, but what it has put.
        callsAbove(Kit.type(Kit.of(I, I, I)), 3);
        // A call that has ended leaves its room.
        StackHost z = new StackHost();
        int twice = Kit.instance(z, Kit.module(Kit.sectionOf(1, VOID_TYPE), 3, 3, 2, 0, 0,
                Kit.sectionOf(7, Kit.export("f", 0, 0)), Kit.sectionOf(10, Kit.body(0x10, 1, 0x10, 1, 0x10, 1),
                Kit.body(tall(9000)))));
        Kit.same("9000 three times", Kit.callOf(z, twice, 0), 0);
        int early = Kit.instance(z, Kit.module(Kit.sectionOf(1, VOID_TYPE), 3, 3, 2, 0, 0,
                Kit.sectionOf(7, Kit.export("f", 0, 0)), Kit.sectionOf(10, Kit.body(0x10, 1, tall(9000), 0x10, 1),
                Kit.body(tall(9000)))));
        Kit.same("a caller's room is not counted before it is used", Kit.callOf(z, early, 0), 0);
    }

    /** f puts n operands and calls g with two of them; g has one local of its own and a room of 5. */
    private static void callsAbove(byte[] type, int parameters) {
        StackHost y = new StackHost();
        for (int n = 16370; n <= 16380; n++) {
            byte[] up = new byte[2 * n];
            byte[] down = new byte[n - 2];
            for (int k = 0; k < n; k++) {
                up[2 * k] = 0x41;
            }
            Arrays.fill(down, (byte) DROP);
            int made = Kit.instance(y, Kit.module(Kit.sectionOf(1, type, Kit.type(Kit.of(I, I))), 3, 3, 2, 0, 1,
                    Kit.sectionOf(7, Kit.export("f", 0, 0)),
                    Kit.sectionOf(10, Kit.body(up, 0x10, 1, down), Kit.bodyWith(1, I, tall(5)))));
            // Without the two that are taken, n - 2; two parameters, one local, and 5: n + 6 in all, and its own
            // locals.
            boolean enough = parameters + n + 6 <= 16384;
            Kit.same("n = " + n, Kit.callOf(y, made, 0, new long[parameters]), enough ? 0 : 1);
            Kit.same("trap(0)", enough ? 9 : y.trap(0), 9);
        }
    }

    private static void newCalls() {
        Kit.sentence("Otherwise a call of it is opened: in its instance, with the locals, parameters first, the "
                + "others 0, and no operands.");
        StackHost x = new StackHost();
        byte[] inner = Kit.module(Kit.sectionOf(1, Kit.type(Kit.of(I), I)), 3, 2, 1, 0,
                Kit.section(6, 1, I, 1, Kit.i32(7000), 11), Kit.sectionOf(7, Kit.export("f", 0, 0)),
                Kit.sectionOf(10, Kit.bodyWith(3, I, 0x20, 3, 0x20, 2, 0x6A, 0x20, 1, 0x6A, 0x20, 0, 0x6A, 0x23, 0,
                0x6A, Kit.i32(99), 0x22, 1, 0x22, 2, 0x21, 3)));
        Kit.name(x, Kit.instance(x, inner), "in");
        int made = Kit.instance(x, Kit.module(Kit.sectionOf(1, Kit.type(Kit.of(I), I)),
                Kit.sectionOf(2, imported("in", "f", 0, 0)), 3, 2, 1, 0, Kit.section(6, 1, I, 1, Kit.i32(3), 11),
                Kit.sectionOf(7, Kit.export("f", 0, 1)), Kit.sectionOf(10, Kit.body(Kit.i32(55), DROP, 0x20, 0, 0x10, 0,
                0x20, 0, 0x10, 0, 0x6A, 0x23, 0, 0x6A))));
        for (int turn = 0; turn < 3; turn++) {
            Kit.same("run", Kit.callOf(x, made, 0, 10), 0);
            Kit.same("twice the other's variable and the parameter, and its own variable", x.result(), 2 * 7010 + 3);
        }
    }

    private static void resultsArePut() {
        Kit.sentence("At its end its result is put for the call below.");
        StackHost x = new StackHost();
        int made = Kit.instance(x, Kit.module(Kit.sectionOf(1, Kit.type(Kit.of(), I), VOID_TYPE, Kit.type(Kit.of(), L)),
                Kit.section(3, 4, 0, 0, 1, 2), Kit.sectionOf(7, Kit.export("f", 0, 0)),
                Kit.sectionOf(10, Kit.body(Kit.i32(1), 0x10, 1, 0x10, 2, 0x6A, 0x10, 3, 0xA7, 0x6A),
                Kit.body(Kit.i32(20)), Kit.body(Kit.i32(5), DROP), Kit.body(Kit.i64(-1)))));
        Kit.same("run", Kit.callOf(x, made, 0), 0);
        Kit.same("1 + 20 - 1", x.result(), 20);
    }
}
