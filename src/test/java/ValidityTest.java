/** Promises 4 to 7, part 3: which modules are valid, the faults 20 to 28, and the room of bodies. */
public final class ValidityTest {
    private static final int I = Kit.I;
    private static final int L = Kit.L;
    private static final int F = Kit.F;
    private static final int D = Kit.D;
    private static final byte[] VOID_TYPE = Kit.type(Kit.of());

    public static void main(String[] args) {
        typesAndImports();
        ownThings();
        expressions();
        exportsAndStart();
        elementsAndData();
        order();
        taking();
        blocks();
        branches();
        dead();
        callsAndSelect();
        localsAndVariables();
        memories();
        everyNumeric();
        rooms();
        whatAModuleHas();
        Kit.close();
    }

    /** A function without a name, of a type, with a body; the places are those of its instructions. */
    private static void body(String what, byte[] type, int code, int at, Object... instructions) {
        byte[] module = Kit.module(Kit.sectionOf(1, type), 3, 2, 1, 0, Kit.section(10, 1, Kit.body(instructions)));
        int start = module.length - Kit.join(instructions).length - 1;
        Kit.faults(what, module, code, code == 0 ? 0 : start + at);
    }

    /** Likewise, with no parameters and no result. */
    private static void plain(String what, int code, int at, Object... instructions) {
        body(what, VOID_TYPE, code, at, instructions);
    }

    private static void right(String what, Object... instructions) {
        body(what, VOID_TYPE, 0, 0, instructions);
    }

    private static byte[] function(int type) {
        return Kit.join(0, 0, 0, Kit.count(type));
    }

    private static void typesAndImports() {
        Kit.faults("two results", Kit.module(Kit.sectionOf(1, VOID_TYPE, Kit.type(Kit.of(I), I, I))), 28, 14);
        Kit.faults("three results", Kit.module(Kit.sectionOf(1, Kit.type(Kit.of(), I, L, F))), 28, 11);
        Kit.faults("no such type", Kit.module(Kit.sectionOf(2, function(0))), 20, 11);
        Kit.faults("no such type, the second", Kit.module(Kit.sectionOf(1, VOID_TYPE), Kit.sectionOf(2, function(0),
                function(1))), 20, 21);
        Kit.faults("a type of 2 to the power of 31", Kit.module(Kit.sectionOf(1, VOID_TYPE), Kit.section(2, 1, 0, 0, 0,
                Kit.count(0x80000000L))), 20, 17);
        Kit.faults("table, most below least", Kit.module(2, 8, 1, 0, 0, 1, 112, 1, 2, 1), 25, 11);
        Kit.valid("table, most is least", Kit.module(2, 8, 1, 0, 0, 1, 112, 1, 2, 2));
        Kit.faults("memory, most below least", Kit.module(2, 7, 1, 0, 0, 2, 1, 2, 1), 25, 11);
        Kit.faults("memory, least above", Kit.module(Kit.section(2, 1, 0, 0, 2, 0, Kit.count(65537))), 25, 11);
        Kit.faults("memory, most above", Kit.module(Kit.section(2, 1, 0, 0, 2, 1, 1, Kit.count(65537))), 25, 11);
        Kit.valid("memory, 65536", Kit.module(Kit.section(2, 1, 0, 0, 2, 1, Kit.count(65536), Kit.count(65536))));
        Kit.faults("two memories", Kit.module(2, 11, 2, 0, 0, 2, 0, 0, 0, 0, 2, 0, 0), 27, 16);
        Kit.faults("two tables", Kit.module(2, 13, 2, 0, 0, 1, 112, 0, 0, 0, 0, 1, 112, 0, 0), 27, 17);
        Kit.faults("25 comes before 27", Kit.module(2, 12, 2, 0, 0, 2, 0, 0, 0, 0, 2, 1, 1, 0), 25, 16);
        Kit.valid("a table and a memory", Kit.module(2, 12, 2, 0, 0, 1, 112, 0, 0, 0, 0, 2, 0, 0));
        Kit.valid("a table with the greatest limits", Kit.module(Kit.section(2, 1, 0, 0, 1, 112, 1,
                Kit.count(0xFFFFFFFFL), Kit.count(0xFFFFFFFFL))));
        Kit.faults("limits without a sign", Kit.module(Kit.section(2, 1, 0, 0, 1, 112, 1, Kit.count(0xFFFFFFFFL), 1)),
                25, 11);
    }

    private static void ownThings() {
        Kit.faults("no such type", Kit.module(Kit.sectionOf(1, VOID_TYPE), 3, 3, 2, 0, 1,
                Kit.section(10, 2, Kit.body(), Kit.body())), 20, 18);
        Kit.faults("two tables", Kit.module(4, 7, 2, 112, 0, 0, 112, 0, 0), 27, 14);
        Kit.faults("a table, and an imported one", Kit.module(2, 7, 1, 0, 0, 1, 112, 0, 0, 4, 4, 1, 112, 0, 0), 27, 20);
        Kit.faults("table, most below least", Kit.module(4, 5, 1, 112, 1, 2, 1), 25, 11);
        Kit.faults("two memories", Kit.module(5, 5, 2, 0, 0, 0, 0), 27, 13);
        Kit.faults("a memory, and an imported one", Kit.module(2, 6, 1, 0, 0, 2, 0, 0, 5, 3, 1, 0, 0), 27, 19);
        Kit.faults("memory, 25 and 27", Kit.module(5, 6, 2, 0, 0, 1, 3, 2), 25, 13);
        Kit.faults("memory above", Kit.module(Kit.section(5, 1, 0, Kit.count(65537))), 25, 11);
        Kit.faults("memory far above", Kit.module(Kit.section(5, 1, 0, Kit.count(0xFFFFFFFFL))), 25, 11);
    }

    private static void expressions() {
        // An imported variable takes places 11 to 15; the expression of section 6 begins at 21.
        byte[] fixed = Kit.module(2, 6, 1, 0, 0, 3, I, 0);
        byte[] changing = Kit.module(2, 6, 1, 0, 0, 3, I, 1);
        byte[] longer = Kit.module(2, 6, 1, 0, 0, 3, L, 0);
        Kit.valid("an imported one", Kit.join(fixed, 6, 6, 1, I, 0, 0x23, 0, 11));
        Kit.faults("there is none", Kit.join(fixed, 6, 6, 1, I, 0, 0x23, 1, 11), 20, 21);
        Kit.faults("an own one", Kit.join(fixed, Kit.section(6, 2, I, 0, 0x41, 0, 11, I, 0, 0x23, 1, 11)), 20, 26);
        Kit.faults("a changing one", Kit.join(changing, 6, 6, 1, I, 0, 0x23, 0, 11), 26, 21);
        Kit.faults("a changing one of another type", Kit.join(changing, 6, 6, 1, L, 0, 0x23, 0, 11), 26, 21);
        Kit.faults("one of another type", Kit.join(longer, 6, 6, 1, I, 0, 0x23, 0, 11), 21, 21);
        Kit.valid("a changing variable from a fixed one", Kit.join(longer, 6, 6, 1, L, 1, 0x23, 0, 11));
        // Without imports the expression of section 6 begins at 13.
        Kit.faults("nothing", Kit.module(6, 4, 1, I, 0, 11), 26, 13);
        Kit.faults("0x01", Kit.module(6, 5, 1, I, 0, 1, 11), 26, 13);
        Kit.faults("0x20", Kit.module(6, 6, 1, I, 0, 0x20, 0, 11), 26, 13);
        Kit.faults("0x45", Kit.module(6, 5, 1, I, 0, 0x45, 11), 26, 13);
        Kit.faults("0x40", Kit.module(6, 6, 1, I, 0, 0x40, 0, 11), 26, 13);
        Kit.faults("0x02", Kit.module(6, 7, 1, I, 0, 2, 64, 11, 11), 26, 13);
        Kit.faults("two", Kit.module(6, 8, 1, I, 0, 0x41, 0, 0x41, 0, 11), 26, 15);
        Kit.faults("a second one behind a long number", Kit.module(6, 9, 1, I, 0, 0x41, 0x80, 0x80, 0, 1, 11), 26, 17);
        Kit.faults("an end that closes", Kit.module(6, 9, 1, I, 0, 0x41, 0, 2, 64, 11, 11), 26, 15);
        Kit.faults("21 comes before the second", Kit.module(6, 7, 1, L, 0, 0x41, 0, 1, 11), 21, 13);
        byte[][] constants = {Kit.i32(1), Kit.i64(1), Kit.f32(1), Kit.f64(1)};
        int[] types = {I, L, F, D};
        for (int a = 0; a < 4; a++) {
            for (int b = 0; b < 4; b++) {
                byte[] module = Kit.module(Kit.section(6, 1, types[a], 0, constants[b], 11));
                Kit.faults("constant " + b + " for type " + a, module, a == b ? 0 : 21, a == b ? 0 : 13);
            }
        }
    }

    private static void exportsAndStart() {
        for (int kind = 0; kind < 4; kind++) {
            Kit.faults("nothing of kind " + kind, Kit.module(7, 4, 1, 0, kind, 0), 20, 11);
        }
        byte[] all = Kit.module(Kit.sectionOf(1, VOID_TYPE), Kit.section(2, 1, function(0)), 4, 4, 1, 112, 0, 0, 5, 3, 1, 0,
                0, 6, 6, 1, I, 0, 0x41, 0, 11);
        for (int kind = 0; kind < 4; kind++) {
            Kit.valid("something of kind " + kind, Kit.join(all, 7, 4, 1, 0, kind, 0));
            Kit.faults("no second of kind " + kind, Kit.join(all, 7, 4, 1, 0, kind, 1), 20, all.length + 3);
        }
        Kit.valid("two names", Kit.join(all, Kit.sectionOf(7, Kit.export("a", 0, 0), Kit.export("aa", 0, 0),
                Kit.export("", 1, 0), Kit.export("b", 3, 0))));
        Kit.faults("the same name", Kit.join(all, Kit.sectionOf(7, Kit.export("ab", 0, 0), Kit.export("b", 0, 0),
                Kit.export("ab", 2, 0))), 24, all.length + 12);
        Kit.faults("the empty name twice", Kit.join(all, Kit.sectionOf(7, Kit.export("", 0, 0), Kit.export("", 1, 0))),
                24, all.length + 6);
        Kit.faults("20 comes before 24", Kit.join(all, Kit.sectionOf(7, Kit.export("a", 0, 0), Kit.export("a", 1, 1))),
                20, all.length + 7);
        Kit.valid("start", Kit.join(all, 8, 1, 0));
        Kit.faults("no such start", Kit.join(all, 8, 1, 1), 20, all.length + 2);
        Kit.faults("a start of 2 to the power of 32, less 1", Kit.join(all, Kit.section(8, Kit.count(0xFFFFFFFFL))), 20,
                all.length + 2);
        byte[] parameter = Kit.module(Kit.sectionOf(1, Kit.type(Kit.of(I))), Kit.section(2, 1, function(0)), 8, 1, 0);
        Kit.faults("a start with a parameter", parameter, 21, parameter.length - 1);
        byte[] result = Kit.module(Kit.sectionOf(1, Kit.type(Kit.of(), I)), Kit.section(2, 1, function(0)), 8, 1, 0);
        Kit.faults("a start with a result", result, 21, result.length - 1);
    }

    private static void elementsAndData() {
        byte[] none = Kit.module(Kit.sectionOf(1, VOID_TYPE), Kit.section(2, 1, function(0)));
        byte[] base = Kit.join(none, 4, 4, 1, 112, 0, 9, 5, 3, 1, 0, 1);
        int at = base.length + 3;
        Kit.valid("elements", Kit.join(base, Kit.section(9, 1, 0, 0x41, 0, 11, 2, 0, 0)));
        Kit.faults("no table", Kit.join(none, Kit.section(9, 1, 0, 0x41, 0, 11, 0)), 20, none.length + 3);
        Kit.faults("table 1", Kit.join(base, Kit.section(9, 2, 0, 0x41, 0, 11, 0, 1, 0x42, 0, 11, 1, 5)), 20, at + 5);
        Kit.faults("an offset of L", Kit.join(base, Kit.section(9, 1, 0, 0x42, 0, 11, 1, 5)), 21, at + 1);
        Kit.faults("an offset of two", Kit.join(base, Kit.section(9, 1, 0, 0x41, 0, 1, 11, 1, 5)), 26, at + 3);
        Kit.faults("no such function", Kit.join(base, Kit.section(9, 1, 0, 0x41, 0, 11, 3, 0, 1, 2)), 20, at + 6);
        Kit.faults("no such function, of many bytes", Kit.join(base, Kit.section(9, 1, 0, 0x41, 0, 11, 3, 0x80, 0, 0,
                Kit.count(0xFFFFFFFFL))), 20, at + 8);
        Kit.valid("data", Kit.join(base, Kit.section(11, 1, 0, 0x41, 0, 11, 2, 7, 7)));
        Kit.faults("no memory", Kit.join(none, Kit.section(11, 1, 0, 0x41, 0, 11, 0)), 20, none.length + 3);
        Kit.faults("memory 1", Kit.join(base, Kit.section(11, 1, 1, 0x41, 0, 11, 0)), 20, at);
        Kit.faults("an offset of F", Kit.join(base, Kit.section(11, 1, 0, Kit.f32(0), 11, 0)), 21, at + 1);
        Kit.faults("an offset of no number", Kit.join(base, Kit.section(11, 1, 0, 0x6A, 11, 0)), 26, at + 1);
    }

    private static void order() {
        byte[] types = Kit.sectionOf(1, VOID_TYPE, Kit.type(Kit.of(), I, I));
        byte[] rightTypes = Kit.sectionOf(1, VOID_TYPE);
        byte[] imports = Kit.section(2, 1, function(9));
        byte[] functions = Kit.section(3, 1, 9);
        byte[] rightFunctions = Kit.section(3, 1, 0);
        byte[] tables = Kit.section(4, 1, 112, 1, 2, 1);
        byte[] memories = Kit.section(5, 1, 1, 2, 1);
        byte[] variables = Kit.section(6, 1, I, 0, 11);
        byte[] exports = Kit.section(7, 1, 0, 0, 9);
        byte[] start = Kit.section(8, 9);
        byte[] elements = Kit.section(9, 1, 5, 0x41, 0, 11, 0);
        byte[] code = Kit.section(10, 1, Kit.body(0x1A));
        byte[] data = Kit.section(11, 1, 5, 0x41, 0, 11, 0);
        byte[][] wrong = {types, imports, functions, tables, memories, variables, exports, start, elements, data, code};
        int[] faults = {28, 20, 20, 25, 25, 26, 20, 20, 20, 20, 21};
        byte[][] healthy = {rightTypes, Kit.bytes(), rightFunctions, Kit.bytes(), Kit.bytes(), Kit.bytes(), Kit.bytes(),
            Kit.bytes(), Kit.bytes(), Kit.bytes(), code};
        int[] within = {6, 3, 3, 3, 3, 5, 3, 2, 3, 3, 5};
        // Whatever is wrong from the k-th on, it is the k-th that counts; data comes before bodies, though behind them.
        for (int k = 0; k < wrong.length; k++) {
            byte[][] parts = new byte[wrong.length][];
            for (int n = 0; n < parts.length; n++) {
                parts[n] = n < k ? healthy[n] : wrong[n];
            }
            byte[] swap = parts[9];
            parts[9] = parts[10];
            parts[10] = swap;
            int at = 8;
            int upTo = k == 9 ? 10 : k == 10 ? 9 : k;
            for (int n = 0; n < upTo; n++) {
                at += parts[n].length;
            }
            Kit.faults("wrong from part " + k + " on", Kit.module((Object[]) parts), faults[k], at + within[k]);
        }
    }

    private static void taking() {
        plain("drop of nothing", 21, 0, 0x1A);
        right("drop", Kit.i32(0), 0x1A);
        plain("left over at the end", 21, 2, Kit.i32(0));
        body("no result", Kit.type(Kit.of(), I), 21, 0);
        body("another result", Kit.type(Kit.of(), I), 21, 2, Kit.i64(0));
        body("two results", Kit.type(Kit.of(), I), 21, 4, Kit.i32(0), Kit.i32(0));
        body("a result", Kit.type(Kit.of(), I), 0, 0, Kit.i32(0));
        plain("the second operand is another", 21, 4, Kit.i64(0), Kit.i32(0), 0x6A);
        plain("the first operand taken is another", 21, 4, Kit.i32(0), Kit.i64(0), 0x6A);
        plain("one operand is missing", 21, 2, Kit.i32(0), 0x6A);
    }

    private static void blocks() {
        right("0x02", 2, 64, 11);
        right("0x02 with a result", 2, I, Kit.i32(0), 11, 0x1A);
        plain("0x02 without its result", 21, 2, 2, I, 11, 0x1A);
        plain("0x02 with one too many", 21, 4, 2, 64, Kit.i32(0), 11);
        plain("0x02 cannot take from outside", 21, 4, Kit.i32(0), 2, 64, 0x1A, 11);
        right("0x03 with a result", 3, D, Kit.f64(0), 11, 0x1A);
        plain("0x04 takes I", 21, 0, 4, 64, 11);
        plain("0x04 takes I, not L", 21, 2, Kit.i64(0), 4, 64, 11);
        right("0x04 without 0x05", Kit.i32(0), 4, 64, 11);
        plain("0x04 with a result, without 0x05", 21, 6, Kit.i32(0), 4, I, Kit.i32(0), 11, 0x1A);
        right("0x04 with a result", Kit.i32(0), 4, I, Kit.i32(0), 5, Kit.i32(0), 11, 0x1A);
        plain("0x05 takes the result", 21, 4, Kit.i32(0), 4, I, 5, Kit.i32(0), 11, 0x1A);
        plain("0x05 with one too many", 21, 6, Kit.i32(0), 4, 64, Kit.i32(0), 5, 11);
        plain("the end behind 0x05 takes the result", 21, 7, Kit.i32(0), 4, I, Kit.i32(0), 5, 11, 0x1A);
        plain("behind 0x05 nothing is dead", 21, 6, Kit.i32(0), 4, 64, 0, 5, 0x1A, 11);
        right("0x04 and 0x05 above an operand", Kit.i64(0), Kit.i32(0), 4, I, Kit.i32(0), 5, Kit.i32(0), 11, 0x1A, 0x1A);
        plain("0x04 leaves what is below", 21, 6, Kit.i64(0), Kit.i32(0), 4, 64, 0x1A, 5, 11, 0x1A);
        right("0x04 dead on both sides", Kit.i32(0), 4, I, 0, 5, 0, 11, 0x1A);
        plain("a 0x04 with a result that is dead, without 0x05", 21, 5, Kit.i32(0), 4, I, 0, 11, 0x1A);
    }

    private static void branches() {
        right("to the body", 0x0C, 0);
        plain("beyond the body", 20, 0, 0x0C, 1);
        plain("beyond, far", 20, 0, 0x0C, Kit.count(0xFFFFFFFFL));
        right("outward", 2, 64, 0x0C, 1, 11);
        plain("beyond, from inside", 20, 2, 2, 64, 0x0C, 2, 11);
        body("with the body's result", Kit.type(Kit.of(), L), 0, 0, Kit.i64(1), 0x0C, 0);
        body("without the body's result", Kit.type(Kit.of(), L), 21, 0, 0x0C, 0);
        right("a label of 0x02 with a result", 2, I, Kit.i32(1), 0x0C, 0, 11, 0x1A);
        plain("without the label's result", 21, 2, 2, I, 0x0C, 0, 11, 0x1A);
        right("a label of 0x03 has no type", 3, I, 0x0C, 0, 11, 0x1A);
        right("0x0D", Kit.i32(0), 0x0D, 0);
        plain("0x0D without I", 21, 0, 0x0D, 0);
        plain("0x0D beyond, without I", 20, 0, 0x0D, 1);
        right("0x0D with a result puts it", 2, I, Kit.i32(7), Kit.i32(0), 0x0D, 0, 11, 0x1A);
        plain("0x0D without the result", 21, 4, 2, I, Kit.i32(0), 0x0D, 0, 0x1A, Kit.i32(0), 11, 0x1A);
        plain("0x0D does not kill", 21, 4, Kit.i32(0), 0x0D, 0, 0x1A);
        right("0x0E", Kit.i32(0), 0x0E, 1, 0, 0);
        plain("0x0E without I", 21, 0, 0x0E, 0, 0);
        plain("0x0E beyond in the row", 20, 0, 0x0E, 2, 0, 1, 0);
        plain("0x0E beyond at the last", 20, 0, 0x0E, 1, 0, 1);
        plain("0x0E: what is not there comes first", 20, 4, 2, I, Kit.i32(0), 0x0E, 2, 0, 1, 5, 11, 0x1A);
        plain("0x0E of unlike labels", 21, 6, 2, I, Kit.i32(0), Kit.i32(0), 0x0E, 1, 0, 1, 11, 0x1A);
        plain("0x0E of unlike labels, dead", 21, 3, 2, I, 0, 0x0E, 1, 0, 1, 11, 0x1A);
        right("0x0E of like labels", 2, I, 2, I, Kit.i32(0), Kit.i32(0), 0x0E, 3, 0, 1, 1, 0, 11, 11, 0x1A);
        right("0x0E of a 0x03 and a 0x02 without a result", 2, 64, 3, I, Kit.i32(0), 0x0E, 1, 0, 1, 11, 0x1A, 11);
        plain("0x0E of a 0x03 and a 0x02 with one", 21, 6, 2, I, 3, I, Kit.i32(0), 0x0E, 1, 0, 1, 11, 11, 0x1A);
        body("0x0F", Kit.type(Kit.of(), F), 0, 0, 2, 64, Kit.f32(1), 0x0F, 11, 0);
        body("0x0F without the result", Kit.type(Kit.of(), F), 21, 2, Kit.i32(0), 0x0F);
        body("0x0F in 0x02 cannot take from outside", Kit.type(Kit.of(), I), 21, 4, Kit.i32(0), 2, 64, 0x0F, 11);
    }

    private static void dead() {
        right("any is there", 0, 0x1A, 0x6A, 0x1A);
        right("0x6A of any and one", 0, Kit.i32(0), 0x6A, 0x1A);
        plain("what is there must fit", 21, 3, 0, Kit.i64(0), 0x6A, 0x1A);
        plain("what is put is there", 21, 2, 0, 0x6A, 0x7C, 0x1A);
        plain("left over when dead", 21, 3, 0, Kit.i32(0));
        right("dead takes away", Kit.i32(0), Kit.i64(0), 0x0C, 0);
        right("dead takes away, 0x0F", Kit.i32(0), 0x0F);
        plain("what is dead inside lives outside", 21, 4, 2, 64, 0, 11, 0x1A);
        plain("dead inside does not take from outside", 21, 7, Kit.i32(0), 2, 64, 0, 0x1A, 11);
        right("an opened one in a dead one lives", 0, 2, 64, 11);
        plain("an opened one in a dead one does not die", 21, 3, 0, 2, 64, 0x1A, 11);
        plain("labels in dead code must be there", 20, 1, 0, 0x0C, 1);
        plain("locals in dead code must be there", 20, 1, 0, 0x20, 0, 0x1A);
        right("0x0D when dead puts its type", 2, I, 0, 0x0D, 0, 11, 0x1A);
        plain("0x0D when dead puts just that type", 21, 5, 2, I, 0, 0x0D, 0, 0x7C, 11, 0x1A);
        body("the end of a dead body", Kit.type(Kit.of(), D), 0, 0, 0);
    }

    private static void callsAndSelect() {
        byte[] head = Kit.module(Kit.sectionOf(1, VOID_TYPE, Kit.type(Kit.of(I, L), F)),
                Kit.section(2, 1, function(1)), 3, 2, 1, 0);
        byte[] table = Kit.join(head, 4, 4, 1, 112, 0, 0);
        called("0x10", head, 0, 0, Kit.i32(0), Kit.i64(0), 0x10, 0, 0x1A);
        called("0x10 of itself", head, 0, 0, 0x10, 1);
        called("0x10 of none", head, 20, 0, 0x10, 2);
        called("0x10 with its parameters turned", head, 21, 4, Kit.i64(0), Kit.i32(0), 0x10, 0, 0x1A);
        called("0x10 with one parameter", head, 21, 2, Kit.i64(0), 0x10, 0, 0x1A);
        called("0x10 puts F", head, 21, 6, Kit.i32(0), Kit.i64(0), 0x10, 0, 0x45, 0x1A);
        called("0x11 without a table", head, 20, 0, 0x11, 0, 0);
        called("0x11 of no type", table, 20, 0, 0x11, 2, 0);
        called("0x11 without I", table, 21, 0, 0x11, 0, 0);
        called("0x11", table, 0, 0, Kit.i32(0), Kit.i64(0), Kit.i32(5), 0x11, 1, 0, 0x1A);
        called("0x11 takes I first", table, 21, 6, Kit.i32(0), Kit.i32(5), Kit.i64(0), 0x11, 1, 0, 0x1A);
        right("0x1B", Kit.f32(0), Kit.f32(0), Kit.i32(0), 0x1B, 0x8B, 0x1A);
        plain("0x1B of unlike ones", 21, 9, Kit.f32(0), Kit.i32(0), Kit.i32(0), 0x1B, 0x1A);
        plain("0x1B without I", 21, 15, Kit.f32(0), Kit.f32(0), Kit.f32(0), 0x1B, 0x1A);
        plain("0x1B of one", 21, 4, Kit.i32(0), Kit.i32(0), 0x1B, 0x1A);
        right("0x1B dead", 0, 0x1B, 0x1A);
        right("0x1B dead puts ANY", 0, 0x1B, 0x7C, 0x1A);
        plain("0x1B dead with one that is known", 21, 6, 0, Kit.i64(0), Kit.i32(0), 0x1B, 0x45, 0x1A);
        right("0x1B dead with one that is known", 0, Kit.i64(0), Kit.i32(0), 0x1B, 0x50, 0x1A);
        // An ANY that was put, and a known type above it: the known one is put.
        plain("0x1B of ANY and L", 21, 7, 0, 0x1B, Kit.i64(0), Kit.i32(0), 0x1B, 0x45, 0x1A);
        right("0x1B of ANY and L", 0, 0x1B, Kit.i64(0), Kit.i32(0), 0x1B, 0x50, 0x1A);
        right("0x1B of an ANY that was put", 0, 0x1B, Kit.i32(0), 0x1B, 0x1A);
    }

    private static void called(String what, byte[] head, int code, int at, Object... instructions) {
        byte[] module = Kit.join(head, Kit.section(10, 1, Kit.body(instructions)));
        int start = module.length - Kit.join(instructions).length - 1;
        Kit.faults(what, module, code, code == 0 ? 0 : start + at);
    }

    private static void localsAndVariables() {
        byte[] type = Kit.type(Kit.of(I, L));
        body("0x20 of the parameters", type, 0, 0, 0x20, 0, 0x45, 0x1A, 0x20, 1, 0x50, 0x1A);
        body("0x20 of none", type, 20, 0, 0x20, 2, 0x1A);
        body("0x20 of another type", type, 21, 2, 0x20, 1, 0x45, 0x1A);
        body("0x21", type, 0, 0, Kit.i32(0), 0x21, 0);
        body("0x21 of another type", type, 21, 2, Kit.i32(0), 0x21, 1);
        body("0x21 of none there", type, 20, 0, 0x21, 2);
        body("0x22", type, 0, 0, Kit.i64(0), 0x22, 1, 0x50, 0x1A);
        body("0x22 of another type", type, 21, 2, Kit.i32(0), 0x22, 1, 0x1A);
        body("0x22 of nothing", type, 21, 0, 0x22, 1, 0x1A);
        body("0x22 dead", type, 0, 0, 0, 0x22, 1, 0x50, 0x1A);
        byte[] module = Kit.module(Kit.sectionOf(1, type), 3, 2, 1, 0, Kit.section(10, 1, Kit.sized(3, 1, F, 0, I, 2, D,
                0x20, 2, 0x8B, 0x1A, 0x20, 3, 0x99, 0x1A, 0x20, 4, 0x99, 0x1A, 11)));
        Kit.valid("locals behind the parameters", module);
        byte[] beyond = Kit.module(Kit.sectionOf(1, type), 3, 2, 1, 0, Kit.section(10, 1, Kit.sized(3, 1, F, 0, I, 2, D,
                0x20, 5, 0x1A, 11)));
        Kit.faults("a local beyond", beyond, 20, beyond.length - 4);

        byte[] head = Kit.module(Kit.sectionOf(1, VOID_TYPE), 2, 6, 1, 0, 0, 3, F, 0, 3, 2, 1, 0,
                Kit.section(6, 1, L, 1, Kit.i64(0), 11));
        called("0x23", head, 0, 0, 0x23, 0, 0x8B, 0x1A, 0x23, 1, 0x50, 0x1A);
        called("0x23 of none", head, 20, 0, 0x23, 2, 0x1A);
        called("0x24", head, 0, 0, Kit.i64(1), 0x24, 1);
        called("0x24 of another type", head, 21, 2, Kit.i32(1), 0x24, 1);
        called("0x24 of a fixed one", head, 23, 5, Kit.f32(1), 0x24, 0);
        called("0x24 of a fixed one, of nothing", head, 23, 0, 0x24, 0);
        called("0x24 of none", head, 20, 0, 0x24, 2);
    }

    private static void memories() {
        byte[] head = Kit.module(Kit.sectionOf(1, VOID_TYPE), 3, 2, 1, 0, 5, 3, 1, 0, 0);
        int[] types = {I, L, F, D, I, I, I, I, L, L, L, L, L, L, I, L, F, D, I, I, L, L, L};
        int[] powers = {2, 3, 2, 3, 0, 0, 1, 1, 0, 0, 1, 1, 2, 2, 2, 3, 2, 3, 0, 1, 0, 1, 2};
        for (int op = 0x28; op <= 0x3E; op++) {
            int power = powers[op - 0x28];
            byte[] value = constant(types[op - 0x28]);
            byte[] before = op >= 0x36 ? Kit.join(Kit.i32(0), value) : Kit.i32(0);
            byte[] behind = op >= 0x36 ? Kit.bytes() : Kit.bytes(tests(types[op - 0x28]), 0x1A);
            String what = "memory instruction " + op;
            for (int p = 0; p <= power; p++) {
                called(what, head, 0, 0, before, op, p, 0, behind);
            }
            called(what + " with too much", head, 22, before.length, before, op, power + 1, 0, behind);
            called(what + " with far too much", head, 22, before.length, before, op, Kit.count(0xFFFFFFFFL), 0, behind);
            called(what + " with 32", head, 22, before.length, before, op, 32, 0, behind);
            called(what + ", 22 comes before 21", head, 22, 0, op, power + 1, 0, behind);
            called(what + " of nothing", head, 21, 0, op, 0, 0, behind);
            plain(what + " without a memory", 20, 0, op, 31, 0);
            called(what + " of F where I is wanted", head, 21, 5 + (op >= 0x36 ? value.length : 0), Kit.f32(0),
                    op >= 0x36 ? value : Kit.bytes(), op, 0, 0, behind);
        }
        called("0x3F", head, 0, 0, 0x3F, 0, 0x45, 0x1A);
        called("0x40", head, 0, 0, Kit.i32(0), 0x40, 0, 0x45, 0x1A);
        called("0x40 of nothing", head, 21, 0, 0x40, 0, 0x1A);
        plain("0x3F without a memory", 20, 0, 0x3F, 0, 0x1A);
        plain("0x40 without a memory", 20, 0, 0x40, 0, 0x1A);
    }

    private static byte[] constant(int type) {
        return type == I ? Kit.i32(0) : type == L ? Kit.i64(0) : type == F ? Kit.f32(0) : Kit.f64(0);
    }

    /** An instruction that takes just that type and puts one. */
    private static int tests(int type) {
        return type == I ? 0x45 : type == L ? 0x50 : type == F ? 0x8B : 0x99;
    }

    private static void everyNumeric() {
        int[][] groups = {
            {0x45, 1, I, I}, {0x4F, 2, I, I}, {0x50, 1, L, I}, {0x5A, 2, L, I}, {0x60, 2, F, I}, {0x66, 2, D, I},
            {0x69, 1, I, I}, {0x78, 2, I, I}, {0x7B, 1, L, L}, {0x8A, 2, L, L}, {0x91, 1, F, F}, {0x98, 2, F, F},
            {0x9F, 1, D, D}, {0xA6, 2, D, D}, {0xA7, 1, L, I}, {0xA9, 1, F, I}, {0xAB, 1, D, I}, {0xAD, 1, I, L},
            {0xAF, 1, F, L}, {0xB1, 1, D, L}, {0xB3, 1, I, F}, {0xB5, 1, L, F}, {0xB6, 1, D, F}, {0xB8, 1, I, D},
            {0xBA, 1, L, D}, {0xBB, 1, F, D}, {0xBC, 1, F, I}, {0xBD, 1, D, L}, {0xBE, 1, I, F}, {0xBF, 1, L, D}};
        int group = 0;
        for (int op = 0x45; op <= 0xBF; op++) {
            while (op > groups[group][0]) {
                group++;
            }
            byte[] operand = constant(groups[group][2]);
            byte[] before = groups[group][1] == 1 ? operand : Kit.join(operand, operand);
            for (int type = D; type <= I; type++) {
                byte[] other = constant(type);
                byte[] turned = groups[group][1] == 1 ? other : Kit.join(operand, other);
                boolean fits = type == groups[group][2];
                body("instruction " + op + " of " + type, Kit.type(Kit.of(), groups[group][3]), fits ? 0 : 21,
                        turned.length, turned, op);
                boolean puts = type == groups[group][3];
                body("instruction " + op + " puts " + type, Kit.type(Kit.of(), type), puts ? 0 : 21, before.length + 1,
                        before, op);
            }
        }
    }

    private static int roomOf(byte[] type, Object... instructions) {
        StackHost x = new StackHost();
        Kit.load(x, Kit.module(Kit.sectionOf(1, type), 3, 2, 1, 0, Kit.section(10, 1, Kit.body(instructions))));
        Kit.same("load", x.fault(0), 0);
        return x.room(0, 0);
    }

    private static void rooms() {
        byte[] result = Kit.type(Kit.of(), I);
        Kit.same("nothing", roomOf(VOID_TYPE), 0);
        Kit.same("one", roomOf(VOID_TYPE, Kit.i32(0), 0x1A), 1);
        Kit.same("parameters are no operands", roomOf(Kit.type(Kit.of(I, I, I))), 0);
        Kit.same("three at once", roomOf(VOID_TYPE, Kit.i32(0), Kit.i32(0), Kit.i32(0), 0x6A, 0x6A, 0x1A, Kit.i32(0),
                0x1A), 3);
        Kit.same("a result", roomOf(result, Kit.i32(0)), 1);
        Kit.same("the body's end puts its type", roomOf(result, 0), 1);
        Kit.same("a block's end puts its type", roomOf(VOID_TYPE, 2, I, 0, 11, 0x1A), 1);
        Kit.same("dead ones count", roomOf(VOID_TYPE, 0, Kit.i32(0), Kit.i32(0), 0x1A, 0x1A), 2);
        Kit.same("dead takes away", roomOf(VOID_TYPE, Kit.i32(0), 0, Kit.i32(0), 0x1A), 1);
        Kit.same("0x0D when dead", roomOf(result, 0, 0x0D, 0), 1);
        Kit.same("0x22 when dead", roomOf(Kit.type(Kit.of(I)), 0, 0x22, 0, 0x1A), 1);
        Kit.same("0x0D without a type when dead", roomOf(VOID_TYPE, 0, 0x0D, 0), 0);
        Kit.same("across blocks", roomOf(VOID_TYPE, Kit.i32(0), 2, I, Kit.i32(0), Kit.i32(0), 0x6A, 11, 0x6A, 0x1A), 3);
        byte[] tall = new byte[2 * 5000];
        byte[] drops = new byte[5000];
        for (int k = 0; k < 5000; k++) {
            tall[2 * k] = 0x41;
            drops[k] = 0x1A;
        }
        Kit.same("5000", roomOf(VOID_TYPE, tall, drops), 5000);
    }

    private static void whatAModuleHas() {
        StackHost x = new StackHost();
        Kit.load(x, Kit.module(
                Kit.sectionOf(1, VOID_TYPE, Kit.type(Kit.of(I), I)),
                Kit.section(2, 5, function(0), function(1), Kit.bytes(0, 0, 2, 0, 0), Kit.bytes(0, 0, 3, I, 0),
                        Kit.bytes(0, 0, 3, L, 1)),
                Kit.section(3, 3, 0, 1, 0),
                Kit.section(4, 1, 112, 0, 5),
                Kit.section(6, 1, I, 1, Kit.i32(3), 11),
                Kit.section(7, 2, Kit.export("a", 0, 4), Kit.export("b", 3, 2)),
                Kit.section(9, 4, Kit.bytes(0, 0x41, 0, 11, 1, 0), Kit.bytes(0, 0x41, 0, 11, 0),
                        Kit.bytes(0, 0x41, 0, 11, 0), Kit.bytes(0, 0x41, 0, 11, 0)),
                Kit.section(10, 3, Kit.body(), Kit.body(Kit.i32(1), Kit.i32(1), 0x6A), Kit.body(Kit.i32(0), 0x1A)),
                Kit.section(11, 2, Kit.bytes(0, 0x41, 0, 11, 0), Kit.bytes(0, 0x41, 0, 11, 1, 9))));
        Kit.same("fault(0)", x.fault(0), 0);
        int[] due = {2, 5, 5, 1, 1, 3, 2, 4, 2};
        for (int what = 0; what < due.length; what++) {
            Kit.same("module(0, " + what + ")", x.module(0, what), due[what]);
        }
        Kit.outside("module(0, 9)", () -> x.module(0, 9));
        Kit.outside("module(0, -1)", () -> x.module(0, -1));
        Kit.outside("module(1, 0)", () -> x.module(1, 0));
        Kit.outside("module(-1, 0)", () -> x.module(-1, 0));
        Kit.same("room(0, 0)", x.room(0, 0), 0);
        Kit.same("room(0, 1)", x.room(0, 1), 2);
        Kit.same("room(0, 2)", x.room(0, 2), 1);
        Kit.outside("room(0, 3)", () -> x.room(0, 3));
        Kit.outside("room(0, -1)", () -> x.room(0, -1));
        Kit.outside("room(1, 0)", () -> x.room(1, 0));
        Kit.outside("room(-1, 0)", () -> x.room(-1, 0));
        Kit.load(x, Kit.module());
        for (int what = 0; what < due.length; what++) {
            Kit.same("module(1, " + what + ")", x.module(1, what), 0);
        }
        Kit.outside("room(1, 0)", () -> x.room(1, 0));
    }
}
