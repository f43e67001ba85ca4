import java.util.Arrays;
import java.util.function.IntPredicate;

/** Part 2 of the terms, sentence by sentence: modules, as they are read, and the faults 1 to 10. */
public final class ModulesTest {
    private static final byte[] MAGIC = Kit.bytes(0, 97, 115, 109, 1, 0, 0, 0);
    private static final byte[] VOID_TYPE = Kit.type(Kit.of());

    public static void main(String[] args) {
        theFirstBytes();
        kindsAbove();
        kindsInOrder();
        sectionsThatAreNotThere();
        whatIsLeftOver();
        sectionsOfAnyBytes();
        functionTypes();
        valueTypes();
        importKinds();
        limits();
        tableTypes();
        variableTypes();
        ownThings();
        exports();
        start();
        elements();
        bodiesThatAreNotThere();
        bodiesWithMore();
        data();
        bytesThatCannotStand();
        manyLocals();
        localsBeforeTheirType();
        theEndOfAnExpression();
        whereElseStands();
        manyOpen();
        asManyBodies();
        Kit.close();
    }

    private static void theFirstBytes() {
        Kit.sentence("First the bytes 0 97 115 109 1 0 0 0 (fault 1 at the first one that is another, or is not "
                + "there).");
        Kit.valid("a module of nothing", MAGIC);
        for (int k = 0; k < 8; k++) {
            byte[] other = MAGIC.clone();
            other[k]++;
            Kit.faults("byte " + k + " is another", other, 1, k);
            other[7] = 77;
            Kit.faults("byte " + k + " and the last are others", other, 1, k);
            Kit.faults(k + " bytes alone", Arrays.copyOf(MAGIC, k), 1, k);
            byte[] cut = Arrays.copyOf(other, k + 1);
            Kit.faults("byte " + k + " is another, and no more come", cut, 1, k);
        }
    }

    private static void kindsAbove() {
        Kit.sentence("one above 11 is fault 5 at it");
        for (int kind = 12; kind < 256; kind++) {
            Kit.faults("kind " + kind, Kit.module(kind, 1, 0), 5, 8);
            Kit.faults("kind " + kind + " without a size", Kit.module(11, 1, 0, kind), 5, 11);
        }
    }

    /** A section that holds no more than it must. */
    private static byte[] least(int kind) {
        return Kit.bytes(kind, 1, 0);
    }

    private static void kindsInOrder() {
        Kit.sentence("and kinds 1 .. 11 come in rising order, each once at most: else fault 6 at it");
        for (int a = 1; a <= 11; a++) {
            for (int b = 1; b <= 11; b++) {
                orderIs(a, b);
            }
        }
        Kit.valid("rising", Kit.module(1, 1, 0, 2, 1, 0, 3, 1, 0, 4, 1, 0, 5, 1, 0, 6, 1, 0, 7, 1, 0, 9, 1, 0, 10, 1, 0,
                11, 1, 0));
        Kit.faults("the last of many", Kit.module(least(1), least(3), least(5), least(4)), 6, 17);
    }

    private static void orderIs(int a, int b) {
        String what = "section " + b + " behind " + a;
        if (a >= b) {
            Kit.faults(what, Kit.module(least(a), least(b)), 6, 11);
            Kit.faults(what + ", of which there is the kind alone", Kit.module(least(a), b), 6, 11);
            Kit.faults(what + ", with one of kind 0 between", Kit.module(least(a), least(0), least(b)), 6, 14);
        } else if (a != 8 && b != 8) {
            Kit.valid(what, Kit.module(least(a), least(b)));
            Kit.valid(what + ", with one of kind 0 between", Kit.module(least(a), least(0), least(b)));
        } else {
            // The function that starts is not there, which is seen when all has been read.
            Kit.faults(what, Kit.module(least(a), least(b)), 20, a == 8 ? 10 : 13);
        }
    }

    private static void sectionsThatAreNotThere() {
        Kit.sentence("(which must be there before anything in them is read, else fault 2 at the tape's end)");
        for (int kind = 0; kind <= 11; kind++) {
            Kit.faults("section " + kind + ", one byte less", Kit.module(kind, 3, 255, 255), 2, 12);
            Kit.faults("section " + kind + ", none of its bytes", Kit.module(kind, 1), 2, 10);
            Kit.faults("section " + kind + " of 2 to the power of 31", Kit.module(kind, Kit.count(0x80000000L), 255), 2,
                    15);
            Kit.faults("section " + kind + " of 2 to the power of 32, less 1", Kit.module(kind, Kit.count(0xFFFFFFFFL),
                    255), 2, 15);
        }
    }

    private static void whatIsLeftOver() {
        Kit.sentence("What is in a section ends just where the section ends, else fault 7 at the first byte that is "
                + "left over.");
        for (int kind = 1; kind <= 11; kind++) {
            Kit.faults("section " + kind + ", one byte", Kit.module(kind, 2, 0, 0), 7, 11);
            Kit.faults("section " + kind + ", three bytes", Kit.module(kind, 4, 0, 255, 255, 255, 12), 7, 11);
        }
        Kit.faults("behind a type", Kit.module(1, 5, 1, 96, 0, 0, 0), 7, 14);
        Kit.faults("behind data", Kit.module(11, 8, 1, 0, 0x41, 0, 11, 1, 9, 8), 7, 17);
    }

    private static void sectionsOfAnyBytes() {
        Kit.sentence("0: a name, and any bytes (which mean nothing).");
        byte[] all = new byte[256];
        for (int k = 0; k < 256; k++) {
            all[k] = (byte) k;
        }
        Kit.valid("every byte", Kit.module(Kit.section(0, Kit.text("a"), all)));
        Kit.valid("none", Kit.module(Kit.section(0, Kit.text(""))));
        Kit.valid("many, anywhere", Kit.module(least(0), least(0), least(1), Kit.section(0, 0, 255), least(11),
                least(0), least(0)));
        Kit.faults("no name", Kit.module(0, 0), 2, 10);
        StackHost x = new StackHost();
        Kit.load(x, Kit.module(Kit.section(0, 0, Kit.sectionOf(1, VOID_TYPE))));
        Kit.same("no type comes of it", x.module(0, 0), 0);
    }

    /** A byte at the end of what is given, with something behind it: which can stand there. */
    private static void stands(String what, byte[] before, IntPredicate right, Object... behind) {
        for (int b = 0; b < 256; b++) {
            byte[] content = Kit.join(Arrays.copyOfRange(before, 1, before.length), b, Kit.join(behind));
            byte[] module = Kit.module(Kit.section(before[0], content));
            if (right.test(b)) {
                Kit.valid(what + " of " + b, module);
            } else {
                int sizeBytes = content.length < 128 ? 1 : 2;
                Kit.faults(what + " of " + b, module, 5, 8 + sizeBytes + before.length);
            }
        }
    }

    private static boolean isType(int b) {
        return b >= 124 && b <= 127;
    }

    private static void functionTypes() {
        Kit.sentence("1: a row of FUNCTION TYPES: the byte 96");
        stands("a type", Kit.bytes(1, 1), b -> b == 96, 0, 0);
        stands("a second type", Kit.bytes(1, 2, 96, 0, 0), b -> b == 96, 0, 0);
    }

    private static void valueTypes() {
        Kit.sentence("A value type is a byte: 127 I, a number of 32 bits; 126 L, of 64 bits; 125 F, a floating one "
                + "of 32 bits; 124 D, of 64 bits.");
        stands("a parameter", Kit.bytes(1, 1, 96, 1), ModulesTest::isType, 0);
        stands("a second parameter", Kit.bytes(1, 1, 96, 2, 127), ModulesTest::isType, 0);
        stands("a result", Kit.bytes(1, 1, 96, 0, 1), ModulesTest::isType);
        int[] types = {127, 126, 125, 124};
        int[] taking = {0x45, 0x50, 0x8B, 0x99};
        for (int a = 0; a < 4; a++) {
            for (int b = 0; b < 4; b++) {
                byte[] module = Kit.single(Kit.type(Kit.of(types[a])), Kit.body(0x20, 0, taking[b], 0x1A));
                Kit.faults("type " + types[a], module, a == b ? 0 : 21, a == b ? 0 : module.length - 3);
            }
        }
    }

    private static void importKinds() {
        Kit.sentence("and 0 and a count, the number of a function type; or 1 and a TABLE TYPE; or 2 and LIMITS, of a "
                + "memory; or 3 and a VARIABLE TYPE.");
        Kit.valid("a function", Kit.module(Kit.sectionOf(1, VOID_TYPE), 2, 5, 1, 0, 0, 0, 0));
        Kit.valid("a table", Kit.module(2, 7, 1, 0, 0, 1, 112, 0, 0));
        Kit.valid("a memory", Kit.module(2, 6, 1, 0, 0, 2, 0, 0));
        Kit.valid("a variable", Kit.module(2, 6, 1, 0, 0, 3, 127, 0));
        for (int kind = 4; kind < 256; kind++) {
            Kit.faults("kind " + kind, Kit.module(2, 7, 1, 0, 0, kind, 0, 0, 0), 5, 13);
        }
    }

    private static void limits() {
        Kit.sentence("Limits: 0 and a count, the LEAST; or 1, the least, and a count, the MOST.");
        for (int flag = 2; flag < 256; flag++) {
            Kit.faults("an imported table's " + flag, Kit.module(2, 8, 1, 0, 0, 1, 112, flag, 0, 0), 5, 15);
            Kit.faults("an imported memory's " + flag, Kit.module(2, 7, 1, 0, 0, 2, flag, 0, 0), 5, 14);
            Kit.faults("a table's " + flag, Kit.module(4, 5, 1, 112, flag, 0, 0), 5, 12);
            Kit.faults("a memory's " + flag, Kit.module(5, 4, 1, flag, 0, 0), 5, 11);
        }
        Kit.faults("0 with a most", Kit.module(5, 4, 1, 0, 0, 0), 7, 12 + 1);
        Kit.faults("1 without a most", Kit.module(5, 3, 1, 1, 0), 2, 13);
        Kit.valid("1 with a most", Kit.module(5, 4, 1, 1, 2, 3));
        Kit.faults("the least comes first", Kit.module(5, 4, 1, 1, 3, 2), 25, 11);
    }

    private static void tableTypes() {
        Kit.sentence("Table type: the byte 112, and limits.");
        stands("an imported table", Kit.bytes(2, 1, 0, 0, 1), b -> b == 112, 0, 0);
        stands("a table", Kit.bytes(4, 1), b -> b == 112, 0, 0);
    }

    private static void variableTypes() {
        Kit.sentence("Variable type: a value type, and 0 (fixed) or 1 (changing).");
        stands("an imported variable's type", Kit.bytes(2, 1, 0, 0, 3), ModulesTest::isType, 0);
        stands("an imported variable, fixed or not,", Kit.bytes(2, 1, 0, 0, 3, 127), b -> b <= 1);
        stands("a variable, fixed or not,", Kit.bytes(6, 1, 127), b -> b <= 1, 0x41, 0, 11);
        for (int b = 0; b < 256; b++) {
            if (!isType(b)) {
                Kit.faults("a variable's type of " + b, Kit.module(6, 6, 1, b, 0, 0x41, 0, 11), 5, 11);
            }
        }
        byte[] head = Kit.module(Kit.sectionOf(1, VOID_TYPE), 3, 2, 1, 0);
        byte[] code = Kit.section(10, 1, Kit.body(0x41, 0, 0x24, 0));
        Kit.valid("1 is changing", Kit.join(head, 6, 6, 1, 127, 1, 0x41, 0, 11, code));
        byte[] fixed = Kit.join(head, 6, 6, 1, 127, 0, 0x41, 0, 11, code);
        Kit.faults("0 is fixed", fixed, 23, fixed.length - 3);
    }

    private static void ownThings() {
        Kit.sentence("3: a row of counts, the numbers of function types. 4: a row of table types. 5: a row of "
                + "limits, of memories. 6: a row of variable types, each with an EXPRESSION.");
        StackHost x = new StackHost();
        Kit.load(x, Kit.module(Kit.sectionOf(1, VOID_TYPE, Kit.type(Kit.of(127))), Kit.section(3, 3, 1, 0, 1),
                Kit.section(4, 1, 112, 0, 2), Kit.section(5, 1, 0, 1), Kit.section(6, 2, 127, 0, Kit.i32(5), 11, 126, 1,
                Kit.i64(6), 11), Kit.sectionOf(10, Kit.body(), Kit.body(), Kit.body())));
        Kit.same("fault(0)", x.fault(0), 0);
        Kit.same("functions", x.module(0, 2), 3);
        Kit.same("tables", x.module(0, 3), 1);
        Kit.same("memories", x.module(0, 4), 1);
        Kit.same("variables", x.module(0, 5), 2);
    }

    private static void exports() {
        Kit.sentence("7: a row of EXPORTS: a name, a byte 0 .. 3 (function, table, memory, variable), a count, its "
                + "number.");
        byte[] all = Kit.module(Kit.sectionOf(1, VOID_TYPE), Kit.section(3, 1, 0), Kit.section(4, 1, 112, 0, 0),
                Kit.section(5, 1, 0, 0), Kit.section(6, 1, 127, 0, Kit.i32(0), 11));
        for (int kind = 0; kind < 256; kind++) {
            byte[] module = Kit.join(all, Kit.section(7, 1, Kit.text("a"), kind, 0), Kit.sectionOf(10, Kit.body()));
            Kit.faults("an export of kind " + kind, module, kind <= 3 ? 0 : 5, kind <= 3 ? 0 : all.length + 5);
        }
    }

    private static void start() {
        Kit.sentence("8: a count, the function that STARTS.");
        byte[] head = Kit.module(Kit.sectionOf(1, VOID_TYPE), Kit.section(3, 1, 0));
        byte[] code = Kit.sectionOf(10, Kit.body());
        Kit.valid("one", Kit.join(head, 8, 1, 0, code));
        Kit.faults("none", Kit.join(head, 8, 0, code), 2, head.length + 2);
        Kit.faults("two", Kit.join(head, 8, 2, 0, 0, code), 7, head.length + 3);
    }

    private static void elements() {
        Kit.sentence("9: a row of ELEMENTS: a count (a table), an expression, a row of counts (functions).");
        byte[] table = Kit.module(4, 4, 1, 112, 0, 5);
        Kit.valid("two rows", Kit.join(table, Kit.section(9, 2, 0, 0x41, 0, 11, 0, 0, 0x41, 1, 11, 0)));
        Kit.faults("a row that is cut", Kit.join(table, Kit.section(9, 1, 0, 0x41, 0, 11, 2, 0)), 2, table.length + 9);
        Kit.faults("an expression without an end", Kit.join(table, Kit.section(9, 1, 0, 0x41, 0)), 2, table.length + 6);
    }

    private static void bodiesThatAreNotThere() {
        Kit.sentence("10: a row of BODIES: a count, its size, and as many bytes (which must be there before anything "
                + "in them is read, else fault 2 at the section's end)");
        // The section's first byte is at place 10, the size of its body at 11.
        for (byte[] size : new byte[][] {Kit.bytes(4), Kit.count(0x80000000L), Kit.count(0xFFFFFFFFL)}) {
            byte[] section = Kit.section(10, 1, size, 255, 255, 255);
            Kit.faults("a body beyond its section", Kit.module(section, 0, 3, 0, 0, 0), 2, 8 + section.length);
        }
        Kit.faults("a second body beyond it", Kit.module(Kit.section(10, 2, 2, 0, 11, 3, 0, 11), 0, 3, 0, 0, 0), 2, 17);
        Kit.faults("a body of nothing", Kit.module(Kit.section(10, 1, 0, 0, 11)), 2, 12);
    }

    /** A module with one function and this body; the body's size stands at place 21, its first byte at 22. */
    private static byte[] withBody(Object... body) {
        return Kit.module(Kit.sectionOf(1, VOID_TYPE), 3, 2, 1, 0, Kit.section(10, 1, Kit.sized(body)));
    }

    private static void bodiesWithMore() {
        Kit.sentence("they end just where the body ends (fault 7)");
        Kit.valid("a body", withBody(0, 11));
        Kit.faults("one byte more", withBody(0, 11, 11), 7, 24);
        Kit.faults("two more, which are no instructions", withBody(0, 11, 255, 255), 7, 24);
        Kit.faults("more behind what was closed", withBody(0, 2, 64, 11, 11, 1), 7, 27);
        Kit.faults("a first body with more", Kit.module(Kit.sectionOf(1, VOID_TYPE), 3, 3, 2, 0, 0,
                Kit.section(10, 2, 3, 0, 11, 2, 2, 0, 11)), 7, 25);
        Kit.faults("a second body with more", Kit.module(Kit.sectionOf(1, VOID_TYPE), 3, 3, 2, 0, 0,
                Kit.section(10, 2, 2, 0, 11, 3, 0, 11, 0)), 7, 28);
    }

    private static void data() {
        Kit.sentence("11: a row of DATA: a count (a memory), an expression, a row of bytes.");
        byte[] memory = Kit.module(5, 3, 1, 0, 1);
        StackHost x = new StackHost();
        int made = Kit.instance(x, Kit.join(memory, Kit.section(11, 2, 0, 0x41, 2, 11, 2, 255, 12, 0, 0x41, 9, 11, 0)));
        Kit.same("a byte", x.peek(made, 2), 255);
        Kit.same("a byte", x.peek(made, 3), 12);
        Kit.faults("a row that is cut", Kit.join(memory, Kit.section(11, 1, 0, 0x41, 0, 11, 2, 9)), 2,
                memory.length + 9);
        Kit.faults("a row of too few", Kit.join(memory, Kit.section(11, 1, 0, 0x41, 0, 11, 1, 9, 8)), 7,
                memory.length + 9);
    }

    private static void bytesThatCannotStand() {
        Kit.sentence("In these fault 5 is at a byte that cannot stand where it stands.");
        // The places of value types, limits, kinds and marks are held to it above; these are the rest.
        for (int b = 0; b < 256; b++) {
            boolean right = isType(b);
            Kit.faults("locals of type " + b, withBody(1, 1, b, 11), right ? 0 : 5, right ? 0 : 24);
            for (int opener = 2; opener <= 3; opener++) {
                boolean opens = isType(b) || b == 64;
                // A number of that type is not there, which is seen later.
                Kit.faults(opener + " with " + b, withBody(0, opener, b, 0, 11, 0, 11), opens ? 0 : 5, opens ? 0 : 24);
            }
            Kit.faults("0x04 with " + b, withBody(0, 0, 4, b, 0, 5, 0, 11, 0, 11), right || b == 64 ? 0 : 5,
                    right || b == 64 ? 0 : 25);
            Kit.faults("0x11 with " + b, withBody(0, 0x11, 0, b, 11), b == 0 ? 20 : 5, b == 0 ? 23 : 25);
            Kit.faults("0x3F with " + b, withBody(0, 0x3F, b, 11), b == 0 ? 20 : 5, b == 0 ? 23 : 24);
            Kit.faults("0x40 with " + b, withBody(0, 0x40, b, 11), b == 0 ? 20 : 5, b == 0 ? 23 : 24);
        }
    }

    private static void manyLocals() {
        Kit.sentence("In a body fault 9 is at the count with which it has more than 1000 locals, parameters not "
                + "counted");
        Kit.valid("1000", withBody(1, Kit.count(1000), 127, 11));
        Kit.faults("1001", withBody(1, Kit.count(1001), 127, 11), 9, 23);
        Kit.valid("999 and 1", withBody(2, Kit.count(999), 127, 1, 126, 11));
        Kit.faults("1000 and 1", withBody(2, Kit.count(1000), 127, 1, 126, 11), 9, 26);
        Kit.faults("1 and 1000", withBody(2, 1, 127, Kit.count(1000), 126, 11), 9, 25);
        Kit.faults("400 three times", withBody(3, Kit.count(400), 127, Kit.count(400), 126, Kit.count(400), 125, 11), 9,
                29);
        Kit.valid("1000 and 0", withBody(2, Kit.count(1000), 127, 0, 126, 11));
        Kit.valid("0 and 1000", withBody(2, 0, 127, Kit.count(1000), 126, 11));
        Kit.faults("2 to the power of 31", withBody(1, Kit.count(0x80000000L), 127, 11), 9, 23);
        Kit.faults("2 to the power of 32, less 1", withBody(1, Kit.count(0xFFFFFFFFL), 127, 11), 9, 23);
        Kit.faults("1, and 2 to the power of 32, less 1", withBody(2, 1, 127, Kit.count(0xFFFFFFFFL), 127, 11), 9, 25);
        int[] parameters = new int[100];
        Arrays.fill(parameters, 127);
        Kit.valid("1000 behind 100 parameters", Kit.single(Kit.type(parameters), Kit.bodyWith(1000, 127)));
        Kit.valid("1000 in each of two", Kit.module(Kit.sectionOf(1, VOID_TYPE), 3, 3, 2, 0, 0,
                Kit.sectionOf(10, Kit.bodyWith(1000, 127), Kit.bodyWith(1000, 126))));
    }

    private static void localsBeforeTheirType() {
        Kit.sentence("it is looked at before the type behind that count is");
        Kit.faults("1001 of no type", withBody(1, Kit.count(1001), 64, 11), 9, 23);
        Kit.faults("1001, and no type comes", withBody(1, Kit.count(1001)), 9, 23);
        Kit.faults("1000 of no type", withBody(1, Kit.count(1000), 64, 11), 5, 25);
        Kit.faults("1000, and no type comes", withBody(1, Kit.count(1000)), 2, 25);
        Kit.faults("1000 and 1 of no type", withBody(2, Kit.count(1000), 127, 1, 64, 11), 9, 26);
        Kit.faults("a count that is none comes before", withBody(1, 128, 128, 128, 128, 16, 64), 3, 27);
    }

    private static void theEndOfAnExpression() {
        Kit.sentence("up to the END (0x0B) that closes none of them: 0x02, 0x03, 0x04 open, 0x0B closes");
        Kit.valid("0x02 and 0x03 closed", withBody(0, 2, 64, 3, 64, 11, 11, 11));
        Kit.valid("0x04 closed", withBody(0, 0x41, 0, 4, 64, 11, 11));
        for (int opener = 2; opener <= 4; opener++) {
            Kit.faults(opener + " is not closed", withBody(0, opener, 64, 11), 2, 26);
            Kit.faults(opener + " is closed twice", withBody(0, opener, 64, 11, 11, 11), 7, 27);
        }
        Kit.faults("0x05 does not open", withBody(0, 0x41, 0, 4, 64, 5, 11, 11, 11), 7, 30);
        Kit.faults("an expression of section 6", Kit.module(6, 7, 1, 127, 0, 0x41, 0, 11, 11), 7, 16);
        Kit.faults("an open one in section 6", Kit.module(6, 6, 1, 127, 0, 2, 64, 11), 2, 16);
        Kit.faults("0x0B with another byte in 0x42", withBody(0, 0x42, 11, 0x1A), 2, 26);
    }

    private static void whereElseStands() {
        Kit.sentence("0x05 stands only where 0x04 is the latest that is open and had none yet: else it is fault 5.");
        // A body's instructions begin at place 23.
        Kit.faults("in a body", withBody(0, 5, 11), 5, 23);
        Kit.faults("in 0x02", withBody(0, 2, 64, 5, 11, 11), 5, 25);
        Kit.faults("in 0x03", withBody(0, 3, 64, 5, 11, 11), 5, 25);
        Kit.faults("twice", withBody(0, 0x41, 0, 4, 64, 5, 5, 11, 11), 5, 28);
        Kit.faults("behind one that is closed", withBody(0, 0x41, 0, 4, 64, 11, 5, 11), 5, 28);
        Kit.faults("in 0x02 in 0x04", withBody(0, 0x41, 0, 4, 64, 2, 64, 5, 11, 11, 11), 5, 29);
        Kit.faults("in 0x02 behind 0x05", withBody(0, 0x41, 0, 4, 64, 5, 2, 64, 5, 11, 11, 11), 5, 30);
        Kit.valid("behind 0x02 in 0x04", withBody(0, 0x41, 0, 4, 64, 2, 64, 11, 5, 11, 11));
        Kit.valid("in 0x04 behind 0x05 of 0x04", withBody(0, 0x41, 0, 4, 64, 5, 0x41, 0, 4, 64, 5, 11, 11, 11));
        Kit.faults("again behind an inner one", withBody(0, 0x41, 0, 4, 64, 5, 0x41, 0, 4, 64, 5, 11, 5, 11, 11), 5,
                34);
        Kit.faults("in section 6", Kit.module(6, 5, 1, 127, 0, 5, 11), 5, 13);
    }

    private static byte[] times(int count, Object... parts) {
        byte[] one = Kit.join(parts);
        byte[] out = new byte[count * one.length];
        for (int k = 0; k < out.length; k++) {
            out[k] = one[k % one.length];
        }
        return out;
    }

    /** Whether this code is one that can be read, of a body that needs no more than that: it is dead. */
    private static void openIs(String what, boolean right, int at, byte[]... code) {
        byte[] body = Kit.join(0, 0, Kit.join((Object[]) code), 11);
        byte[] module = Kit.module(Kit.sectionOf(1, VOID_TYPE), 3, 2, 1, 0, Kit.section(10, 1, Kit.sized(body)));
        int start = module.length - body.length + 2;
        Kit.faults(what, module, right ? 0 : 10, right ? 0 : start + at);
    }

    private static void manyOpen() {
        Kit.sentence("Fault 10 is at an instruction that opens when 200 are open.");
        for (int opener = 2; opener <= 4; opener++) {
            byte[] opening = opener == 4 ? Kit.bytes(0, 4, 64) : Kit.bytes(opener, 64);
            int length = opening.length;
            byte[] ends = times(200, 11);
            openIs("200 of " + opener, true, 0, times(200, opening), ends);
            openIs("201 of " + opener, false, 201 * length - 2, times(201, opening), Kit.join(ends, 11));
            openIs("201 of " + opener + ", the last without a type", false, 201 * length - 2, times(201, opening),
                    Kit.bytes(0));
            openIs("200 open again and again", true, 0, times(199, opening), times(3, opening, 11), times(199, 11));
            openIs("the 201st behind one that is closed", false, 202 * length - 1, times(200, opening), Kit.bytes(11),
                    times(2, opening), times(201, 11));
        }
        openIs("0x05 opens no more", true, 0, times(200, 0, 4, 64), times(200, 5, 11));
        openIs("behind 0x05", false, 600 + 1, times(200, 0, 4, 64), Kit.bytes(5, 2, 64));
        Kit.faults("in section 6", Kit.module(Kit.section(6, 1, 127, 0, times(201, 2, 64))), 10, 14 + 400);
        Kit.faults("in section 9", Kit.module(Kit.section(9, 1, 0, times(201, 3, 64))), 10, 13 + 400);
        Kit.faults("in section 11", Kit.module(Kit.section(11, 1, 0, times(201, 4, 64))), 10, 13 + 400);
    }

    private static void asManyBodies() {
        Kit.sentence("At the tape's end there must be as many bodies as section 3 has functions: else fault 8 at the "
                + "tape's end.");
        byte[] types = Kit.sectionOf(1, VOID_TYPE);
        byte[] imports = Kit.section(2, 1, 0, 0, 0, 0);
        byte[] function = Kit.bytes(3, 2, 1, 0);
        byte[] code = Kit.sectionOf(10, Kit.body());
        byte[] more = Kit.section(0, 0, 1, 2, 3);
        fewer("no section 10", types, function);
        fewer("no section 10, another one behind", types, function, more);
        fewer("no section 3", types, code);
        fewer("no section 3, though there is an imported function", types, imports, code, more);
        fewer("one of two", types, Kit.bytes(3, 3, 2, 0, 0), code, more);
        fewer("two of one", types, function, Kit.sectionOf(10, Kit.body(), Kit.body()), more);
        fewer("none of one", types, function, Kit.bytes(10, 1, 0));
        fewer("it comes before the faults of valid modules", function, more);
        Kit.valid("one of one", Kit.module(types, imports, function, code, more));
        Kit.valid("none of none", Kit.module(types, 3, 1, 0, 10, 1, 0));
        Kit.valid("none of none, section 3 alone", Kit.module(types, 3, 1, 0));
        Kit.valid("none of none, section 10 alone", Kit.module(types, 10, 1, 0));
    }

    private static void fewer(String what, Object... sections) {
        byte[] module = Kit.module(sections);
        Kit.faults(what, module, 8, module.length);
    }
}
