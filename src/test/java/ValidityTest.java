/** Part 3 of the terms, sentence by sentence: which modules are valid, the faults 20 to 28, and the room of bodies. */
public final class ValidityTest {
    private static final int I = Kit.I;
    private static final int L = Kit.L;
    private static final int F = Kit.F;
    private static final int D = Kit.D;
    private static final int[] TYPES = {I, L, F, D};
    private static final byte[] VOID_TYPE = Kit.type(Kit.of());
    private static final int DROP = 0x1A;

    public static void main(String[] args) {
        importedOnesFirst();
        theOrder();
        results();
        importedFunctions();
        limitsOfImports();
        secondOnes();
        ownFunctions();
        ownTablesAndMemories();
        ownVariables();
        exportsOfNothing();
        exportsOfOneName();
        start();
        elements();
        data();
        expressionsOfOthers();
        expressionsOfVariables();
        expressionsOfTypes();
        expressionsOfTwo();
        bodiesInOrder();
        faultsOfOneInstruction();
        theCheckBeginsAnew();
        openThings();
        localsInOrder();
        takingFromNothing();
        takingAnother();
        takingAny();
        dying();
        opening();
        elses();
        ends();
        theBodysEnd();
        labels();
        branches();
        branchesIf();
        branchesAmong();
        returns();
        unreachable();
        calls();
        callsOfElements();
        drops();
        selects();
        locals();
        variables();
        memoriesThere();
        powers();
        loadsAndStores();
        pages();
        numbers();
        rooms();
        Kit.close();
    }

    /** A function of a type with such a body, behind some sections; the place is told from the first instruction on. */
    private static void called(String what, byte[] head, int code, int at, Object... instructions) {
        byte[] module = Kit.join(head, Kit.section(10, 1, Kit.body(instructions)));
        int start = module.length - Kit.join(instructions).length - 1;
        Kit.faults(what, module, code, code == 0 ? 0 : start + at);
    }

    private static void body(String what, byte[] type, int code, int at, Object... instructions) {
        called(what, Kit.module(Kit.sectionOf(1, type), 3, 2, 1, 0), code, at, instructions);
    }

    /** Likewise, with no parameters and no result. */
    private static void plain(String what, int code, int at, Object... instructions) {
        body(what, VOID_TYPE, code, at, instructions);
    }

    private static void right(String what, Object... instructions) {
        body(what, VOID_TYPE, 0, 0, instructions);
    }

    private static byte[] function(long type) {
        return Kit.join(0, 0, 0, Kit.count(type));
    }

    private static byte[] constant(int type) {
        return type == I ? Kit.i32(0) : type == L ? Kit.i64(0) : type == F ? Kit.f32(0) : Kit.f64(0);
    }

    /** An instruction that takes just that type and puts one. */
    private static int tests(int type) {
        return type == I ? 0x45 : type == L ? 0x50 : type == F ? 0x8B : 0x99;
    }

    private static void importedOnesFirst() {
        Kit.sentence("functions, tables, memories and variables are numbered from 0, the imported ones first, then "
                + "its own");
        byte[] head = Kit.module(Kit.sectionOf(1, VOID_TYPE, Kit.type(Kit.of(), L)),
                Kit.section(2, 2, function(1), Kit.bytes(0, 0, 3, F, 0)), Kit.section(3, 1, 0),
                Kit.section(6, 1, D, 0, Kit.f64(1), 11));
        called("function 0 is imported", head, 0, 0, 0x10, 0, 0x50, DROP);
        called("function 1 is its own", head, 0, 0, 0x10, 1);
        called("function 2 is not there", head, 20, 0, 0x10, 2);
        called("variable 0 is imported", head, 0, 0, 0x23, 0, 0x8B, DROP);
        called("variable 1 is its own", head, 0, 0, 0x23, 1, 0x99, DROP);
        called("variable 2 is not there", head, 20, 0, 0x23, 2, DROP);
        byte[] table = Kit.module(2, 7, 1, 0, 0, 1, 112, 0, 0);
        Kit.valid("table 0 is imported", Kit.join(table, 7, 4, 1, 0, 1, 0));
        Kit.faults("table 1 is not there", Kit.join(table, 7, 4, 1, 0, 1, 1), 20, table.length + 3);
        byte[] memory = Kit.module(2, 6, 1, 0, 0, 2, 0, 0);
        Kit.valid("memory 0 is imported", Kit.join(memory, 7, 4, 1, 0, 2, 0));
        Kit.faults("memory 1 is not there", Kit.join(memory, 7, 4, 1, 0, 2, 1), 20, memory.length + 3);
    }

    private static void theOrder() {
        Kit.sentence("In this order the first of these faults counts, each at the first byte of what is named in "
                + "brackets");
        byte[][] wrong = {Kit.sectionOf(1, VOID_TYPE, Kit.type(Kit.of(), I, I)), Kit.section(2, 1, function(9)),
                Kit.section(3, 1, 9), Kit.section(4, 1, 112, 1, 2, 1), Kit.section(5, 1, 1, 2, 1),
                Kit.section(6, 1, I, 0, 11), Kit.section(7, 1, 0, 0, 9), Kit.section(8, 9),
                Kit.section(9, 1, 5, 0x41, 0, 11, 0), Kit.section(11, 1, 5, 0x41, 0, 11, 0),
                Kit.section(10, 1, Kit.body(DROP))};
        byte[][] healthy = {Kit.sectionOf(1, VOID_TYPE), Kit.bytes(), Kit.section(3, 1, 0), Kit.bytes(), Kit.bytes(),
            Kit.bytes(), Kit.bytes(), Kit.bytes(), Kit.bytes(), Kit.bytes(), Kit.section(10, 1, Kit.body())};
        int[] faults = {28, 20, 20, 25, 25, 26, 20, 20, 20, 20, 21};
        int[] within = {6, 3, 3, 3, 3, 5, 3, 2, 3, 3, 5};
        // Of each two the one that comes first in this order counts; bodies come last, though data stand behind them.
        for (int a = 0; a < wrong.length; a++) {
            for (int b = a; b < wrong.length; b++) {
                int at = 8;
                byte[] module = Kit.module();
                for (int k : new int[] {0, 1, 2, 3, 4, 5, 6, 7, 8, 10, 9}) {
                    at = k == a ? module.length : at;
                    module = Kit.join(module, k == a || k == b ? wrong[k] : healthy[k]);
                }
                Kit.faults("faults " + a + " and " + b, module, faults[a], at + within[a]);
            }
        }
    }

    private static void results() {
        Kit.sentence("Function types (one): 28, it has two results or more.");
        Kit.valid("none and one", Kit.module(Kit.sectionOf(1, VOID_TYPE, Kit.type(Kit.of(I, I), I))));
        Kit.faults("two", Kit.module(Kit.sectionOf(1, Kit.type(Kit.of(), I, I))), 28, 11);
        Kit.faults("three", Kit.module(Kit.sectionOf(1, Kit.type(Kit.of(), I, L, F))), 28, 11);
        Kit.faults("two of the second", Kit.module(Kit.sectionOf(1, VOID_TYPE, Kit.type(Kit.of(I), I, I))), 28, 14);
        Kit.faults("the first of two", Kit.module(Kit.sectionOf(1, Kit.type(Kit.of(), I, I), Kit.type(Kit.of(), I, I))),
                28, 11);
    }

    private static void importedFunctions() {
        Kit.sentence("Imports (one): 20, there is no such function type");
        byte[] types = Kit.sectionOf(1, VOID_TYPE);
        Kit.valid("there is", Kit.module(types, Kit.sectionOf(2, function(0))));
        Kit.faults("there are none", Kit.module(Kit.sectionOf(2, function(0))), 20, 11);
        Kit.faults("the second", Kit.module(types, Kit.sectionOf(2, function(0), function(1))), 20, 21);
        Kit.faults("2 to the power of 31", Kit.module(types, Kit.sectionOf(2, function(0x80000000L))), 20, 17);
        Kit.faults("2 to the power of 32, less 1", Kit.module(types, Kit.sectionOf(2, function(0xFFFFFFFFL))), 20, 17);
        Kit.faults("an earlier import comes first", Kit.module(2, 11, 2, 0, 0, 2, 1, 2, 1, 0, 0, 0, 9), 25, 11);
        Kit.faults("an earlier import comes first", Kit.module(2, 11, 2, 0, 0, 0, 9, 0, 0, 2, 1, 2, 1), 20, 11);
        Kit.faults("also behind a right one", Kit.module(2, 17, 3, 0, 0, 1, 112, 0, 0, 0, 0, 0, 9, 0, 0, 2, 1, 2, 1),
                20, 17);
    }

    private static void limitsOfImports() {
        Kit.sentence("25, of a table or memory the most is below the least, or, of a memory, one of them is above "
                + "65536");
        Kit.faults("table, most below least", Kit.module(2, 8, 1, 0, 0, 1, 112, 1, 2, 1), 25, 11);
        Kit.valid("table, most is least", Kit.module(2, 8, 1, 0, 0, 1, 112, 1, 2, 2));
        Kit.faults("memory, most below least", Kit.module(2, 7, 1, 0, 0, 2, 1, 2, 1), 25, 11);
        Kit.valid("memory, most is least", Kit.module(2, 7, 1, 0, 0, 2, 1, 2, 2));
        Kit.faults("memory, least above", Kit.module(Kit.section(2, 1, 0, 0, 2, 0, Kit.count(65537))), 25, 11);
        Kit.faults("memory, most above", Kit.module(Kit.section(2, 1, 0, 0, 2, 1, 1, Kit.count(65537))), 25, 11);
        Kit.faults("memory, most far above", Kit.module(Kit.section(2, 1, 0, 0, 2, 1, 1, Kit.count(0xFFFFFFFFL))), 25,
                11);
        Kit.faults("memory, least far above", Kit.module(Kit.section(2, 1, 0, 0, 2, 0, Kit.count(0x80000000L))), 25,
                11);
        Kit.valid("memory, 65536", Kit.module(Kit.section(2, 1, 0, 0, 2, 1, Kit.count(65536), Kit.count(65536))));
        Kit.valid("memory, least 65536", Kit.module(Kit.section(2, 1, 0, 0, 2, 0, Kit.count(65536))));
        Kit.valid("a table above", Kit.module(Kit.section(2, 1, 0, 0, 1, 112, 1, Kit.count(65537), Kit.count(65537))));
        Kit.valid("a table with the greatest limits", Kit.module(Kit.section(2, 1, 0, 0, 1, 112, 1,
                Kit.count(0xFFFFFFFFL), Kit.count(0xFFFFFFFFL))));
        Kit.faults("limits have no sign", Kit.module(Kit.section(2, 1, 0, 0, 1, 112, 1, Kit.count(0xFFFFFFFFL), 1)), 25,
                11);
        Kit.valid("limits have no sign", Kit.module(Kit.section(2, 1, 0, 0, 1, 112, 1, 1, Kit.count(0xFFFFFFFFL))));
    }

    private static void secondOnes() {
        Kit.sentence("then 27, it is a second table, or memory");
        Kit.faults("two memories", Kit.module(2, 11, 2, 0, 0, 2, 0, 0, 0, 0, 2, 0, 0), 27, 16);
        Kit.faults("two tables", Kit.module(2, 13, 2, 0, 0, 1, 112, 0, 0, 0, 0, 1, 112, 0, 0), 27, 17);
        Kit.faults("25 comes before", Kit.module(2, 12, 2, 0, 0, 2, 0, 0, 0, 0, 2, 1, 1, 0), 25, 16);
        Kit.valid("a table and a memory", Kit.module(2, 12, 2, 0, 0, 1, 112, 0, 0, 0, 0, 2, 0, 0));
    }

    private static void ownFunctions() {
        Kit.sentence("Section 3 (a number): 20, there is no such type.");
        byte[] types = Kit.sectionOf(1, VOID_TYPE);
        byte[] code = Kit.section(10, 2, Kit.body(), Kit.body());
        Kit.valid("there is", Kit.module(types, 3, 3, 2, 0, 0, code));
        Kit.faults("the first", Kit.module(types, 3, 3, 2, 1, 0, code), 20, 17);
        Kit.faults("the second", Kit.module(types, 3, 3, 2, 0, 1, code), 20, 18);
        Kit.faults("2 to the power of 31", Kit.module(types, Kit.section(3, 2, 0, Kit.count(0x80000000L)), code), 20,
                18);
        Kit.faults("2 to the power of 32, less 1", Kit.module(types, Kit.section(3, 2, 0, Kit.count(0xFFFFFFFFL)),
                code), 20, 18);
    }

    private static void ownTablesAndMemories() {
        Kit.sentence("Sections 4 and 5 (one): 25 and then 27, likewise.");
        Kit.faults("table, most below least", Kit.module(4, 5, 1, 112, 1, 2, 1), 25, 11);
        Kit.valid("table, most is least", Kit.module(4, 5, 1, 112, 1, 2, 2));
        Kit.valid("a table with the greatest limits", Kit.module(Kit.section(4, 1, 112, 1, Kit.count(0xFFFFFFFFL),
                Kit.count(0xFFFFFFFFL))));
        Kit.faults("two tables", Kit.module(4, 7, 2, 112, 0, 0, 112, 0, 0), 27, 14);
        Kit.faults("two tables, 25 first", Kit.module(4, 8, 2, 112, 0, 0, 112, 1, 1, 0), 25, 14);
        Kit.faults("a table, and an imported one", Kit.module(2, 7, 1, 0, 0, 1, 112, 0, 0, 4, 4, 1, 112, 0, 0), 27, 20);
        Kit.faults("memory, most below least", Kit.module(5, 4, 1, 1, 2, 1), 25, 11);
        Kit.valid("memory, most is least", Kit.module(5, 4, 1, 1, 2, 2));
        Kit.valid("memory, 65536", Kit.module(Kit.section(5, 1, 1, Kit.count(65536), Kit.count(65536))));
        Kit.faults("memory, least above", Kit.module(Kit.section(5, 1, 0, Kit.count(65537))), 25, 11);
        Kit.faults("memory, most above", Kit.module(Kit.section(5, 1, 1, 0, Kit.count(65537))), 25, 11);
        Kit.faults("memory, far above", Kit.module(Kit.section(5, 1, 0, Kit.count(0xFFFFFFFFL))), 25, 11);
        Kit.faults("two memories", Kit.module(5, 5, 2, 0, 0, 0, 0), 27, 13);
        Kit.faults("two memories, 25 first", Kit.module(5, 6, 2, 0, 0, 1, 3, 2), 25, 13);
        Kit.faults("a memory, and an imported one", Kit.module(2, 6, 1, 0, 0, 2, 0, 0, 5, 3, 1, 0, 0), 27, 19);
        Kit.valid("a table and a memory", Kit.module(4, 4, 1, 112, 0, 0, 5, 3, 1, 0, 0));
    }

    private static void ownVariables() {
        Kit.sentence("Section 6 (one): the faults of its expression.");
        for (int a = 0; a < 4; a++) {
            for (int b = 0; b < 4; b++) {
                byte[] module = Kit.module(Kit.section(6, 1, TYPES[a], 0, constant(TYPES[b]), 11));
                Kit.faults("a number of type " + b + " for a variable of type " + a, module, a == b ? 0 : 21,
                        a == b ? 0 : 13);
            }
        }
        Kit.faults("the second", Kit.module(Kit.section(6, 2, I, 0, 0x41, 0, 11, L, 0, 0x41, 0, 11)), 21, 18);
    }

    private static byte[] oneOfEach() {
        return Kit.module(Kit.sectionOf(1, VOID_TYPE), Kit.section(2, 1, function(0)), 4, 4, 1, 112, 0, 9, 5, 3, 1, 0,
                1, 6, 6, 1, I, 0, 0x41, 0, 11);
    }

    private static void exportsOfNothing() {
        Kit.sentence("Exports (one): 20, there is no such thing");
        byte[] all = oneOfEach();
        for (int kind = 0; kind < 4; kind++) {
            Kit.faults("nothing of kind " + kind, Kit.module(7, 4, 1, 0, kind, 0), 20, 11);
            Kit.valid("something of kind " + kind, Kit.join(all, 7, 4, 1, 0, kind, 0));
            Kit.faults("no second of kind " + kind, Kit.join(all, 7, 4, 1, 0, kind, 1), 20, all.length + 3);
            Kit.faults("none of so high a number", Kit.join(all, Kit.section(7, 1, 0, kind, Kit.count(0x80000000L))),
                    20, all.length + 3);
            Kit.faults("none of the highest number", Kit.join(all, Kit.section(7, 1, 0, kind, Kit.count(0xFFFFFFFFL))),
                    20, all.length + 3);
        }
    }

    private static void exportsOfOneName() {
        Kit.sentence("24, an earlier one has the same name");
        byte[] all = oneOfEach();
        Kit.valid("four names", Kit.join(all, Kit.sectionOf(7, Kit.export("a", 0, 0), Kit.export("aa", 0, 0),
                Kit.export("", 1, 0), Kit.export("b", 3, 0))));
        Kit.faults("the same name", Kit.join(all, Kit.sectionOf(7, Kit.export("ab", 0, 0), Kit.export("b", 0, 0),
                Kit.export("ab", 2, 0))), 24, all.length + 12);
        Kit.faults("the same name of the same thing", Kit.join(all, Kit.sectionOf(7, Kit.export("ab", 0, 0),
                Kit.export("ab", 0, 0))), 24, all.length + 8);
        Kit.faults("the empty name twice", Kit.join(all, Kit.sectionOf(7, Kit.export("", 0, 0), Kit.export("", 1, 0))),
                24, all.length + 6);
        Kit.faults("20 comes before", Kit.join(all, Kit.sectionOf(7, Kit.export("a", 0, 0), Kit.export("a", 1, 1))),
                20, all.length + 7);
        Kit.faults("24 of an earlier one comes before", Kit.join(all, Kit.sectionOf(7, Kit.export("a", 0, 0),
                Kit.export("a", 1, 0), Kit.export("c", 1, 1))), 24, all.length + 7);
    }

    private static void start() {
        Kit.sentence("Section 8 (its count): 20; 21, it has parameters or results.");
        byte[] all = oneOfEach();
        Kit.valid("start", Kit.join(all, 8, 1, 0));
        Kit.faults("no such function", Kit.join(all, 8, 1, 1), 20, all.length + 2);
        Kit.faults("2 to the power of 31", Kit.join(all, Kit.section(8, Kit.count(0x80000000L))), 20, all.length + 2);
        Kit.faults("2 to the power of 32, less 1", Kit.join(all, Kit.section(8, Kit.count(0xFFFFFFFFL))), 20,
                all.length + 2);
        for (byte[] type : new byte[][] {Kit.type(Kit.of(I)), Kit.type(Kit.of(), I), Kit.type(Kit.of(D), D)}) {
            byte[] module = Kit.module(Kit.sectionOf(1, type), Kit.section(2, 1, function(0)), 8, 1, 0);
            Kit.faults("parameters or results", module, 21, module.length - 1);
        }
    }

    private static void elements() {
        Kit.sentence("Elements (one): 20, there is no such table; the faults of its expression, of type I; 20, a "
                + "function is not there (at its own number).");
        byte[] none = Kit.module(Kit.sectionOf(1, VOID_TYPE), Kit.section(2, 1, function(0)));
        byte[] base = oneOfEach();
        byte[] some = Kit.join(none, 4, 4, 1, 112, 0, 9);
        int at = some.length + 3;
        Kit.valid("elements", Kit.join(some, Kit.section(9, 1, 0, 0x41, 0, 11, 2, 0, 0)));
        Kit.valid("elements with all else", Kit.join(base, Kit.section(9, 1, 0, 0x41, 0, 11, 2, 0, 0)));
        Kit.faults("no table", Kit.join(none, Kit.section(9, 1, 0, 0x41, 0, 11, 0)), 20, none.length + 3);
        Kit.faults("table 1, in the second row", Kit.join(some, Kit.section(9, 2, 0, 0x41, 0, 11, 0, 1, 0x41, 0, 11,
                0)), 20, at + 5);
        Kit.faults("no table, before the expression", Kit.join(some, Kit.section(9, 1, 1, 0x42, 0, 11, 1, 5)), 20, at);
        Kit.faults("table 2 to the power of 31", Kit.join(some, Kit.section(9, 1, Kit.count(0x80000000L), 0x41, 0, 11,
                0)), 20, at);
        for (int type : new int[] {L, F, D}) {
            Kit.faults("an expression of type " + type + ", before the functions",
                    Kit.join(some, Kit.section(9, 1, 0, constant(type), 11, 1, 5)), 21, at + 1);
        }
        Kit.faults("an expression of two", Kit.join(some, Kit.section(9, 1, 0, 0x41, 0, 1, 11, 1, 5)), 26, at + 3);
        Kit.faults("the second function", Kit.join(some, Kit.section(9, 1, 0, 0x41, 0, 11, 3, 0, 1, 2)), 20, at + 6);
        Kit.faults("of counts of many bytes", Kit.join(some, Kit.section(9, 1, 0, 0x41, 0, 11, 3, 0x80, 0, 0,
                Kit.count(0xFFFFFFFFL))), 20, at + 8);
        Kit.faults("2 to the power of 31", Kit.join(some, Kit.section(9, 1, 0, 0x41, 0, 11, 1, Kit.count(0x80000000L))),
                20, at + 5);
        Kit.faults("in the second row", Kit.join(some, Kit.section(9, 2, 0, 0x41, 0, 11, 1, 0, 0, 0x41, 0, 11, 2, 0,
                1)), 20, at + 12);
    }

    private static void data() {
        Kit.sentence("Data (one): 20, there is no such memory; the faults of its expression, of type I.");
        byte[] none = Kit.module();
        byte[] some = Kit.module(5, 3, 1, 0, 1);
        int at = some.length + 3;
        Kit.valid("data", Kit.join(some, Kit.section(11, 1, 0, 0x41, 0, 11, 2, 7, 7)));
        Kit.faults("no memory", Kit.join(none, Kit.section(11, 1, 0, 0x41, 0, 11, 0)), 20, none.length + 3);
        Kit.faults("memory 1", Kit.join(some, Kit.section(11, 2, 0, 0x41, 0, 11, 0, 1, 0x42, 0, 11, 0)), 20, at + 5);
        Kit.faults("memory 2 to the power of 31", Kit.join(some, Kit.section(11, 1, Kit.count(0x80000000L), 0x41, 0, 11,
                0)), 20, at);
        for (int type : new int[] {L, F, D}) {
            Kit.faults("an expression of type " + type, Kit.join(some, Kit.section(11, 1, 0, constant(type), 11, 0)),
                    21, at + 1);
        }
        Kit.faults("an expression of no number", Kit.join(some, Kit.section(11, 1, 0, 0x6A, 11, 0)), 26, at + 1);
        Kit.faults("an expression of two", Kit.join(some, Kit.section(11, 1, 0, 0x41, 0, 1, 11, 0)), 26, at + 3);
    }

    private static void expressionsOfOthers() {
        Kit.sentence("26 at its first instruction, if that is none of 0x41 .. 0x44 and 0x23");
        // The expression of section 6 begins at place 13.
        Kit.faults("its end", Kit.module(6, 4, 1, I, 0, 11), 26, 13);
        for (int op = 0x45; op <= 0xBF; op++) {
            Kit.faults("instruction " + op, Kit.module(6, 5, 1, I, 0, op, 11), 26, 13);
        }
        for (int op : new int[] {0x00, 0x01, 0x0F, 0x1A, 0x1B}) {
            Kit.faults("instruction " + op, Kit.module(6, 5, 1, I, 0, op, 11), 26, 13);
        }
        for (int op : new int[] {0x0C, 0x0D, 0x10, 0x20, 0x21, 0x22, 0x24, 0x3F, 0x40}) {
            Kit.faults("instruction " + op, Kit.module(6, 6, 1, I, 0, op, 0, 11), 26, 13);
        }
        for (int op : new int[] {0x0E, 0x11, 0x28, 0x3E}) {
            Kit.faults("instruction " + op, Kit.module(6, 7, 1, I, 0, op, 0, 0, 11), 26, 13);
        }
        for (int op = 2; op <= 4; op++) {
            Kit.faults("instruction " + op, Kit.module(6, 7, 1, I, 0, op, 64, 11, 11), 26, 13);
        }
    }

    private static void expressionsOfVariables() {
        Kit.sentence("20 there, if 0x23 names no variable that is imported; 26 there, if that one is changing; 21 "
                + "there, if its type is not that");
        // An imported variable takes places 11 to 15; the expression of section 6 begins at 21.
        byte[] fixed = Kit.module(2, 6, 1, 0, 0, 3, I, 0);
        byte[] changing = Kit.module(2, 6, 1, 0, 0, 3, I, 1);
        byte[] longer = Kit.module(2, 6, 1, 0, 0, 3, L, 0);
        Kit.valid("an imported one", Kit.join(fixed, 6, 6, 1, I, 0, 0x23, 0, 11));
        Kit.faults("there is none", Kit.join(fixed, 6, 6, 1, I, 0, 0x23, 1, 11), 20, 21);
        Kit.faults("there is none", Kit.module(6, 6, 1, I, 0, 0x23, 0, 11), 20, 13);
        Kit.faults("2 to the power of 31", Kit.join(fixed, Kit.section(6, 1, I, 0, 0x23, Kit.count(0x80000000L), 11)),
                20, 21);
        Kit.faults("its own", Kit.join(fixed, Kit.section(6, 2, I, 0, 0x41, 0, 11, I, 0, 0x23, 1, 11)), 20, 26);
        Kit.faults("a changing one", Kit.join(changing, 6, 6, 1, I, 0, 0x23, 0, 11), 26, 21);
        Kit.faults("a changing one of another type", Kit.join(changing, 6, 6, 1, L, 0, 0x23, 0, 11), 26, 21);
        Kit.faults("one of another type", Kit.join(longer, 6, 6, 1, I, 0, 0x23, 0, 11), 21, 21);
        Kit.valid("a changing variable from a fixed one", Kit.join(longer, 6, 6, 1, L, 1, 0x23, 0, 11));
        Kit.faults("the offset of data, of another type", Kit.join(longer, 5, 3, 1, 0, 1, 11, 6, 1, 0, 0x23, 0, 11, 0),
                21, 25);
    }

    private static void expressionsOfTypes() {
        Kit.sentence("21 there, if its type is not that");
        for (int a = 0; a < 4; a++) {
            for (int b = 0; b < 4; b++) {
                byte[] module = Kit.join(Kit.module(2, 6, 1, 0, 0, 3, TYPES[a], 0), 6, 6, 1, TYPES[b], 0, 0x23, 0, 11);
                Kit.faults("type " + a + " for " + b, module, a == b ? 0 : 21, a == b ? 0 : 21);
            }
        }
    }

    private static void expressionsOfTwo() {
        Kit.sentence("then 26 at its second instruction, if that is not its end");
        Kit.faults("two", Kit.module(6, 8, 1, I, 0, 0x41, 0, 0x41, 0, 11), 26, 15);
        Kit.faults("one that does nothing", Kit.module(6, 7, 1, I, 0, 0x41, 0, 1, 11), 26, 15);
        Kit.faults("behind a long number", Kit.module(6, 9, 1, I, 0, 0x41, 0x80, 0x80, 0, 1, 11), 26, 17);
        Kit.faults("behind 0x42", Kit.module(6, 7, 1, L, 0, 0x42, 0, 1, 11), 26, 15);
        Kit.faults("behind 0x43", Kit.module(Kit.section(6, 1, F, 0, Kit.f32(0), 1, 11)), 26, 18);
        Kit.faults("behind 0x44", Kit.module(Kit.section(6, 1, D, 0, Kit.f64(0), 1, 11)), 26, 22);
        Kit.faults("behind 0x23", Kit.join(Kit.module(2, 6, 1, 0, 0, 3, I, 0), 6, 7, 1, I, 0, 0x23, 0, 1, 11), 26, 23);
        Kit.faults("an end that closes another", Kit.module(6, 9, 1, I, 0, 0x41, 0, 2, 64, 11, 11), 26, 15);
        Kit.faults("21 comes before", Kit.module(6, 7, 1, L, 0, 0x41, 0, 1, 11), 21, 13);
    }

    private static void bodiesInOrder() {
        Kit.sentence("Bodies, one behind the other, each instruction behind the other (at the instruction)");
        byte[] head = Kit.module(Kit.sectionOf(1, VOID_TYPE), 3, 3, 2, 0, 0);
        byte[] second = Kit.join(head, Kit.section(10, 2, Kit.body(1), Kit.body(DROP)));
        Kit.faults("the second body", second, 21, second.length - 2);
        byte[] both = Kit.join(head, Kit.section(10, 2, Kit.body(DROP, DROP), Kit.body(0x0C, 9)));
        Kit.faults("both bodies", both, 21, head.length + 5);
        plain("two instructions", 21, 0, DROP, 0x0C, 9);
        plain("two instructions", 20, 0, 0x0C, 9, DROP);
        plain("behind long ones", 21, 9 + 2, Kit.f64(0), DROP, 1, DROP);
    }

    private static void faultsOfOneInstruction() {
        Kit.sentence("of an instruction what is not there (20) comes first, then 22 and 23, then 21");
        plain("0x28 without a memory, power or operand", 20, 0, 0x28, 9, 0);
        plain("0x0C of no label, without its operand", 20, 2, 2, I, 0x0C, 2, 11, DROP);
        plain("0x10 of no function", 20, 0, 0x10, 1);
        plain("0x20 of no local", 20, 0, 0x20, 0);
        plain("0x21 of no local", 20, 0, 0x21, 0);
        plain("0x24 of no variable", 20, 0, 0x24, 0);
        byte[] head = Kit.module(Kit.sectionOf(1, VOID_TYPE), 3, 2, 1, 0, 5, 3, 1, 0, 0,
                Kit.section(6, 1, L, 0, Kit.i64(0), 11));
        called("0x28 with a power too high, without an operand", head, 22, 0, 0x28, 3, 0);
        called("0x36 with a power too high, without an operand", head, 22, 0, 0x36, 3, 0);
        called("0x24 of a fixed variable, without an operand", head, 23, 0, 0x24, 0);
        called("0x24 of a fixed variable, with another operand", head, 23, 2, Kit.i32(0), 0x24, 0);
    }

    private static void theCheckBeginsAnew() {
        Kit.sentence("THE CHECK of a body has a row of OPERAND TYPES, empty at first, and a row of OPEN things: the "
                + "body itself first");
        StackHost x = new StackHost();
        byte[] head = Kit.module(Kit.sectionOf(1, VOID_TYPE), 3, 3, 2, 0, 0);
        // What a check that ends with a fault has left behind does not count for the next one.
        byte[] faulty = Kit.join(head, Kit.section(10, 2, Kit.body(Kit.i32(0), Kit.i32(0), 2, 64, 3, 64, Kit.i32(0), 0,
                0x7C, 0x45, 0x1A, 11, 11), Kit.body()));
        byte[] beyond = Kit.join(head, Kit.section(10, 2, Kit.body(0x0C, 1), Kit.body()));
        byte[] nothing = Kit.join(head, Kit.section(10, 2, Kit.body(DROP), Kit.body()));
        byte[] right = Kit.join(head, Kit.section(10, 2, Kit.body(Kit.i32(0), DROP), Kit.body(2, 64, 0x0C, 1, 11)));
        byte[][] modules = {faulty, beyond, faulty, nothing, faulty, right};
        int[] due = {21, 20, 21, 21, 21, 0};
        for (int k = 0; k < modules.length; k++) {
            Kit.same("load " + k, Kit.load(x, modules[k]), due[k] == 0 ? 0 : -1);
            Kit.same("fault " + k, x.fault(0), due[k]);
        }
        Kit.same("room(0, 0)", x.room(0, 0), 1);
        Kit.same("room(0, 1)", x.room(0, 1), 0);
        // Nor does what the body before has left.
        byte[] second = Kit.join(head, Kit.section(10, 2, Kit.body(0), Kit.body(DROP)));
        Kit.faults("the second body is not dead", second, 21, second.length - 2);
    }

    private static void openThings() {
        Kit.sentence("each has a LABEL TYPE (a value type or nothing), an END TYPE (likewise), and a HEIGHT, how "
                + "many operand types there were when it opened");
        for (int type : TYPES) {
            byte[] result = Kit.type(Kit.of(), type);
            body("the body's label type", result, 0, 0, constant(type), 0x0C, 0);
            body("the body's end type", result, 0, 0, constant(type));
            right("0x02", 2, type, constant(type), 11, DROP);
            int other = type == I ? L : I;
            plain("0x02 with another type", 21, 2 + constant(other).length, 2, type, constant(other), 11, DROP);
        }
        plain("what was there when it opened cannot be taken", 21, 4, Kit.i32(0), 2, 64, DROP, 11);
        plain("nor what was there when an inner one opened", 21, 8, Kit.i32(0), 2, 64, Kit.i32(0), 3, 64, DROP, 11,
                DROP, 11);
        right("when it is closed it can be taken", Kit.i32(0), 2, 64, 11, DROP);
        plain("0x04 opens when its I is taken", 21, 4, Kit.i32(0), 4, 64, DROP, 11);
        right("0x04 opens when its I is taken", Kit.i32(0), Kit.i32(0), 4, 64, 5, 11, DROP);
    }

    private static void localsInOrder() {
        Kit.sentence("The locals are the parameters, then the body's own.");
        byte[] head = Kit.module(Kit.sectionOf(1, Kit.type(Kit.of(I, L))), 3, 2, 1, 0);
        int[] types = {I, L, F, D, D, I};
        for (int k = 0; k < types.length; k++) {
            for (int type : TYPES) {
                byte[] module = Kit.join(head, Kit.section(10, 1, Kit.sized(4, 1, F, 0, I, 2, D, 1, I, 0x20, k,
                        tests(type), DROP, 11)));
                boolean fits = type == types[k];
                Kit.faults("local " + k + " of type " + type, module, fits ? 0 : 21, fits ? 0 : module.length - 3);
            }
        }
        byte[] beyond = Kit.join(head, Kit.section(10, 1, Kit.sized(4, 1, F, 0, I, 2, D, 1, I, 0x20, 6, DROP, 11)));
        Kit.faults("one beyond", beyond, 20, beyond.length - 4);
        // The second body's locals are not those of the first.
        byte[] second = Kit.module(Kit.sectionOf(1, VOID_TYPE), 3, 3, 2, 0, 0,
                Kit.section(10, 2, Kit.bodyWith(3, I), Kit.bodyWith(1, I, 0x20, 1, DROP)));
        Kit.faults("one beyond, of the second body", second, 20, second.length - 4);
    }

    private static void takingFromNothing() {
        Kit.sentence("if there are no more operand types than the latest open thing's height, it is any, when that "
                + "is DEAD, else fault 21");
        plain("nothing", 21, 0, DROP);
        plain("one of two", 21, 2, Kit.i32(0), 0x6A);
        plain("only what is above the height", 21, 6, Kit.i32(0), 2, I, Kit.i32(0), 0x6A, 11, DROP, DROP);
        right("dead", 0, DROP);
        right("dead, of each type", 0, 0x6A, DROP, 0x7C, DROP, 0x92, DROP, 0xA0, DROP);
        plain("dead outside is not dead inside", 21, 3, 0, 2, 64, DROP, 11);
        plain("dead inside is not dead outside", 21, 4, 2, 64, 0, 11, DROP);
        plain("dead inside does not take from outside", 21, 7, Kit.i32(0), 2, 64, 0, DROP, 11);
        right("dead again behind what was closed in it", 0, 2, 64, 11, DROP);
    }

    private static void takingAnother() {
        Kit.sentence("otherwise the last one goes, and must be that, or ANY: else fault 21");
        plain("the last is another", 21, 4, Kit.i32(0), Kit.i64(0), 0x6A);
        plain("the one before is another", 21, 4, Kit.i64(0), Kit.i32(0), 0x6A);
        plain("dead, but there is another", 21, 3, 0, Kit.i64(0), 0x6A, DROP);
        plain("dead, but another was put", 21, 2, 0, 0x6A, 0x7C, DROP);
        right("ANY", 0, 0x1B, 0x6A, DROP);
        right("ANY below one", 0, 0x1B, Kit.i32(0), 0x6A, DROP);
    }

    private static void takingAny() {
        Kit.sentence("(To take any: likewise without a wish; it may be ANY.)");
        for (int type : TYPES) {
            right("of type " + type, constant(type), DROP);
        }
        right("an ANY", 0, 0x1B, DROP);
        plain("nothing", 21, 2, 2, 64, DROP, 11);
    }

    private static void dying() {
        Kit.sentence("DEAD: the operand types above the height go, and the latest open thing is dead from there on.");
        right("what was there goes", Kit.i32(0), Kit.i64(0), 0);
        plain("what is put then stays", 21, 3, 0, Kit.i32(0));
        plain("what is below the height stays", 21, 6, Kit.i32(0), 2, 64, 0, 11);
        right("what is below the height stays", Kit.i32(0), 2, 64, Kit.i64(0), 0, 11, DROP);
        right("from there on", Kit.i32(0), DROP, 0, DROP, DROP);
        plain("not before", 21, 0, DROP, 0);
        right("an opened one in a dead one lives", 0, 2, 64, 11);
        plain("behind 0x05 nothing is dead", 21, 6, Kit.i32(0), 4, 64, 0, 5, DROP, 11);
        plain("0x05 is not dead by what was dead before it", 21, 4, 0, 4, 64, 5, DROP, 11);
    }

    private static void opening() {
        Kit.sentence("0x02, 0x03 and 0x04 (which first takes I) open one, then, with the result t that is written "
                + "with them: end type t, label type t, but nothing for 0x03.");
        plain("0x04 of nothing", 21, 0, 4, 64, 11);
        plain("0x04 of L", 21, 2, Kit.i64(0), 4, 64, 11);
        for (int type : TYPES) {
            right("0x02 with " + type, 2, type, constant(type), 0x0C, 0, 11, tests(type), DROP);
            right("0x03 with " + type, 3, type, constant(type), 11, tests(type), DROP);
            right("0x04 with " + type, Kit.i32(0), 4, type, constant(type), 0x0C, 0, 5, constant(type), 11, tests(type),
                    DROP);
            plain("0x02 with " + type + ", without it", 21, 2, 2, type, 11, DROP);
            plain("0x03 with " + type + ", without it", 21, 2, 3, type, 11, DROP);
            plain("to 0x02 without its value", 21, 2, 2, type, 0x0C, 0, 11, DROP);
            plain("to 0x04 without its value", 21, 4, Kit.i32(0), 4, type, 0x0C, 0, 5, 0, 11, DROP);
            right("to 0x03 without a value", 3, type, 0x0C, 0, 11, DROP);
            plain("0x0D to 0x03 takes and puts nothing", 21, 6, 3, type, Kit.i32(0), 0x0D, 0, 11, DROP);
        }
        right("with nothing", 2, 64, 3, 64, Kit.i32(0), 4, 64, 11, 11, 11);
    }

    private static void elses() {
        Kit.sentence("0x05 takes t, and there must be no operand type above the height (21); it opens another one "
                + "likewise with t in its stead.");
        right("0x04 with a result", Kit.i32(0), 4, I, Kit.i32(0), 5, Kit.i32(0), 11, DROP);
        plain("0x05 without t", 21, 4, Kit.i32(0), 4, I, 5, Kit.i32(0), 11, DROP);
        plain("0x05 with another", 21, 6, Kit.i32(0), 4, I, Kit.i64(0), 5, Kit.i32(0), 11, DROP);
        plain("0x05 with one too many", 21, 6, Kit.i32(0), 4, 64, Kit.i32(0), 5, 11);
        plain("0x05 with t and one too many", 21, 8, Kit.i32(0), 4, I, Kit.i32(0), Kit.i32(0), 5, Kit.i32(0), 11, DROP);
        plain("the end behind it without t", 21, 7, Kit.i32(0), 4, I, Kit.i32(0), 5, 11, DROP);
        plain("the end behind it with one too many", 21, 7, Kit.i32(0), 4, 64, 5, Kit.i32(0), 11);
        right("above an operand", Kit.i64(0), Kit.i32(0), 4, I, Kit.i32(0), 5, Kit.i32(0), 11, DROP, DROP);
        plain("what is below stays", 21, 7, Kit.i64(0), Kit.i32(0), 4, 64, 5, DROP, 11, DROP);
        right("dead on both sides", Kit.i32(0), 4, I, 0, 5, 0, 11, DROP);
        right("its label has t", Kit.i32(0), 4, I, 0, 5, Kit.i32(0), 0x0C, 0, 11, DROP);
        plain("its label has t", 21, 6, Kit.i32(0), 4, I, 0, 5, 0x0C, 0, 11, DROP);
    }

    private static void ends() {
        Kit.sentence("0x0B takes the end type, with no operand type left above the height (21); one that was opened "
                + "by 0x04, without 0x05, must have no t (21); what is open is so no more, and t is put.");
        plain("without its type", 21, 2, 2, I, 11, DROP);
        plain("with another type", 21, 4, 2, I, Kit.i64(0), 11, DROP);
        plain("one too many", 21, 4, 2, 64, Kit.i32(0), 11);
        plain("its type and one too many", 21, 6, 2, I, Kit.i32(0), Kit.i32(0), 11, DROP);
        right("0x04 alone", Kit.i32(0), 4, 64, 11);
        plain("0x04 alone, with t", 21, 6, Kit.i32(0), 4, I, Kit.i32(0), 11, DROP);
        plain("0x04 alone, with t, dead", 21, 5, Kit.i32(0), 4, I, 0, 11, DROP);
        plain("what was open is so no more", 20, 3, 2, 64, 11, 0x0C, 1);
        for (int type : TYPES) {
            right("t is put", 2, type, 0, 11, tests(type), DROP);
        }
        right("dead, nothing is left", 2, 64, 0, 11);
        plain("dead, one is left", 21, 5, 2, 64, 0, Kit.i32(0), 11);
    }

    private static void theBodysEnd() {
        Kit.sentence("With the body's own end (its types are the function's result) the check of the body ends.");
        for (int a : TYPES) {
            for (int b : TYPES) {
                body("result " + a + " of " + b, Kit.type(Kit.of(), a), a == b ? 0 : 21, constant(b).length,
                        constant(b));
            }
            body("no result", Kit.type(Kit.of(), a), 21, 0);
            body("a result where there is none", VOID_TYPE, 21, constant(a).length, constant(a));
            body("two results", Kit.type(Kit.of(), a), 21, 2 * constant(a).length, constant(a), constant(a));
            body("dead", Kit.type(Kit.of(), a), 0, 0, 0);
        }
    }

    private static void labels() {
        Kit.sentence("LABELS are counted from 0, the latest open thing, outward; the body's own is the last (20 "
                + "beyond).");
        byte[] result = Kit.type(Kit.of(), L);
        // Three labels of three types: each branch needs just the type of its own.
        int[] types = {I, F, L};
        for (int label = 0; label < 3; label++) {
            for (int k = 0; k < 3; k++) {
                byte[] value = constant(types[k]);
                body("label " + label + " with " + types[k], result, label == k ? 0 : 21, 4 + value.length, 2, F, 2, I,
                        value, 0x0C, label, 11, DROP, Kit.f32(0), 11, DROP, Kit.i64(0));
            }
        }
        for (int op : new int[] {0x0C, 0x0D}) {
            right("the body's own", Kit.i32(0), op, 0);
            plain("beyond the body's own", 20, 2, Kit.i32(0), op, 1);
            plain("beyond, from inside", 20, 4, 2, 64, Kit.i32(0), op, 2, 11);
            plain("2 to the power of 31", 20, 2, Kit.i32(0), op, Kit.count(0x80000000L));
            plain("2 to the power of 32, less 1", 20, 2, Kit.i32(0), op, Kit.count(0xFFFFFFFFL));
        }
        plain("beyond, when dead", 20, 1, 0, 0x0C, 1);
    }

    private static void branches() {
        Kit.sentence("0x0C takes the label type and is dead then");
        body("with the label's type", Kit.type(Kit.of(), L), 0, 0, Kit.i64(1), 0x0C, 0);
        body("without it", Kit.type(Kit.of(), L), 21, 0, 0x0C, 0);
        body("with another", Kit.type(Kit.of(), L), 21, 2, Kit.i32(1), 0x0C, 0);
        right("dead then", 0x0C, 0, DROP);
        right("dead then, what is below goes", Kit.i32(0), 0x0C, 0);
        plain("it cannot take from outside", 21, 6, 2, I, Kit.i32(0), 2, 64, 0x0C, 1, 11, 11, DROP);
    }

    private static void branchesIf() {
        Kit.sentence("0x0D takes I, takes the label type and puts it");
        right("without a type", Kit.i32(0), 0x0D, 0);
        plain("without I", 21, 0, 0x0D, 0);
        plain("with L", 21, 2, Kit.i64(0), 0x0D, 0);
        right("with a type, which is put", 2, L, Kit.i64(7), Kit.i32(0), 0x0D, 0, 0x7A, 11, DROP);
        plain("without the type", 21, 4, 2, I, Kit.i32(0), 0x0D, 0, DROP, Kit.i32(0), 11, DROP);
        plain("with another", 21, 6, 2, L, Kit.i32(7), Kit.i32(0), 0x0D, 0, 11, DROP);
        plain("it is not dead", 21, 4, Kit.i32(0), 0x0D, 0, DROP);
        right("when dead it puts its type", 2, I, 0, 0x0D, 0, 11, DROP);
        plain("when dead it puts just that type", 21, 5, 2, I, 0, 0x0D, 0, 0x7C, 11, DROP);
    }

    private static void branchesAmong() {
        Kit.sentence("0x0E: all its labels must be there (20), then have the same label type (21); then it takes I, "
                + "takes that, and is dead");
        right("of one", Kit.i32(0), 0x0E, 0, 0);
        right("of two", Kit.i32(0), 0x0E, 1, 0, 0, DROP);
        plain("the first is not there", 20, 0, 0x0E, 2, 1, 0, 0);
        plain("the second is not there", 20, 0, 0x0E, 2, 0, 1, 0);
        plain("the last is not there", 20, 0, 0x0E, 1, 0, 1);
        plain("of none, the last is not there", 20, 0, 0x0E, 0, 1);
        plain("of none, the last is not there by far", 20, 0, 0x0E, 0, Kit.count(0x80000000L));
        plain("the highest number is not there", 20, 0, 0x0E, 1, 0, Kit.count(0xFFFFFFFFL));
        plain("unlike ones, and one is not there", 20, 4, 2, I, Kit.i32(0), 0x0E, 2, 0, 1, 5, 11, DROP);
        plain("unlike ones", 21, 6, 2, I, Kit.i32(0), Kit.i32(0), 0x0E, 1, 0, 1, 11, DROP);
        plain("unlike ones, the last is the other", 21, 6, 2, I, Kit.i32(0), Kit.i32(0), 0x0E, 2, 0, 0, 1, 11, DROP);
        plain("unlike ones, the first is the other", 21, 6, 2, I, Kit.i32(0), Kit.i32(0), 0x0E, 2, 1, 0, 0, 11, DROP);
        plain("unlike ones, dead", 21, 3, 2, I, 0, 0x0E, 1, 0, 1, 11, DROP);
        right("like ones", 2, I, 2, I, Kit.i32(0), Kit.i32(0), 0x0E, 3, 0, 1, 1, 0, 11, 11, DROP);
        right("0x03 and 0x02 without a type", 2, 64, 3, I, Kit.i32(0), 0x0E, 1, 0, 1, 11, DROP, 11);
        plain("0x03 and 0x02 with one", 21, 6, 2, I, 3, I, Kit.i32(0), 0x0E, 1, 0, 1, 11, 11, DROP);
        plain("without I", 21, 0, 0x0E, 0, 0);
        plain("with L", 21, 2, Kit.i64(0), 0x0E, 0, 0);
        plain("without its value", 21, 4, 2, I, Kit.i32(0), 0x0E, 0, 0, 11, DROP);
        plain("with another value", 21, 6, 2, L, Kit.i32(0), Kit.i32(0), 0x0E, 0, 0, 11, DROP);
    }

    private static void returns() {
        Kit.sentence("0x0F takes the function's result and is dead");
        for (int type : TYPES) {
            body("in 0x02", Kit.type(Kit.of(), type), 0, 0, 2, 64, constant(type), 0x0F, DROP, 11, 0);
            body("without the result", Kit.type(Kit.of(), type), 21, 0, 0x0F);
            body("with another", Kit.type(Kit.of(), type), 21, 2, type == I ? Kit.i64(0) : Kit.i32(0), 0x0F);
            body("it cannot take from outside", Kit.type(Kit.of(), type), 21, constant(type).length + 2, constant(type),
                    2, 64, 0x0F, 11);
        }
        right("without a result", Kit.i32(0), 0x0F, DROP);
    }

    private static void unreachable() {
        Kit.sentence("0x00 is dead");
        right("dead", 0, DROP);
        body("a result of what is dead", Kit.type(Kit.of(), D), 0, 0, 0);
        right("what was there goes", Kit.i32(0), 0);
    }

    private static void calls() {
        Kit.sentence("0x10 takes the parameters of a function, the last one first, and puts its result (20: it is "
                + "not there).");
        byte[] head = Kit.module(Kit.sectionOf(1, VOID_TYPE, Kit.type(Kit.of(I, L), F)), Kit.section(2, 1, function(1)),
                3, 2, 1, 0);
        called("0x10", head, 0, 0, Kit.i32(0), Kit.i64(0), 0x10, 0, 0x8B, DROP);
        called("of itself", head, 0, 0, 0x10, 1);
        called("of none", head, 20, 0, 0x10, 2);
        called("of 2 to the power of 31", head, 20, 0, 0x10, Kit.count(0x80000000L));
        called("with its parameters turned", head, 21, 4, Kit.i64(0), Kit.i32(0), 0x10, 0, DROP);
        called("with one parameter", head, 21, 2, Kit.i64(0), 0x10, 0, DROP);
        called("its result is of its type", head, 21, 6, Kit.i32(0), Kit.i64(0), 0x10, 0, 0x45, DROP);
        called("without a result nothing is put", head, 21, 2, 0x10, 1, DROP);
        called("when dead", head, 0, 0, 0, 0x10, 0, 0x8B, DROP);
    }

    private static void callsOfElements() {
        Kit.sentence("0x11: there must be a table (20) and a type (20); takes I and does so too.");
        byte[] head = Kit.module(Kit.sectionOf(1, VOID_TYPE, Kit.type(Kit.of(I, L), F)), 3, 2, 1, 0);
        byte[] table = Kit.join(head, 4, 4, 1, 112, 0, 0);
        called("without a table", head, 20, 2, Kit.i32(0), 0x11, 0, 0);
        called("of no type", table, 20, 2, Kit.i32(0), 0x11, 2, 0);
        called("of no type, and without I", table, 20, 0, 0x11, Kit.count(0x80000000L), 0);
        called("without I", table, 21, 0, 0x11, 0, 0);
        called("with I alone", table, 0, 0, Kit.i32(5), 0x11, 0, 0);
        called("with parameters", table, 0, 0, Kit.i32(0), Kit.i64(0), Kit.i32(5), 0x11, 1, 0, 0x8B, DROP);
        called("I comes last", table, 21, 6, Kit.i32(0), Kit.i32(5), Kit.i64(0), 0x11, 1, 0, DROP);
        called("with its parameters turned", table, 21, 6, Kit.i64(0), Kit.i32(0), Kit.i32(5), 0x11, 1, 0, DROP);
        called("with an imported table", Kit.module(Kit.sectionOf(1, VOID_TYPE), 2, 7, 1, 0, 0, 1, 112, 0, 0, 3, 2, 1,
                0), 0, 0, Kit.i32(0), 0x11, 0, 0);
    }

    private static void drops() {
        Kit.sentence("0x1A takes any.");
        for (int type : TYPES) {
            right("of type " + type, constant(type), DROP);
        }
        plain("of nothing", 21, 0, DROP);
        plain("of one, twice", 21, 3, Kit.i32(0), DROP, DROP);
    }

    private static void selects() {
        Kit.sentence("0x1B takes I, takes any, takes that type (any, if that was ANY), and puts the type of both "
                + "that is not ANY, or ANY.");
        for (int a : TYPES) {
            for (int b : TYPES) {
                int length = constant(a).length + constant(b).length + 2;
                plain("0x1B of " + a + " and " + b, a == b ? 0 : 21, length, constant(a), constant(b), Kit.i32(0), 0x1B,
                        DROP);
                plain("0x1B of two of " + a + " puts it", a == b ? 0 : 21, 2 * constant(a).length + 3, constant(a),
                        constant(a), Kit.i32(0), 0x1B, tests(b), DROP);
                plain("one that is known, dead", a == b ? 0 : 21, 4 + constant(a).length, 0, constant(a), Kit.i32(0),
                        0x1B, tests(b), DROP);
                // An ANY that was put, below one that is known.
                plain("ANY and " + a, a == b ? 0 : 21, 5 + constant(a).length, 0, 0x1B, constant(a), Kit.i32(0), 0x1B,
                        tests(b), DROP);
            }
        }
        plain("without I", 21, 15, Kit.f32(0), Kit.f32(0), Kit.f32(0), 0x1B, DROP);
        plain("of one", 21, 4, Kit.i32(0), Kit.i32(0), 0x1B, DROP);
        plain("of nothing", 21, 0, 0x1B);
        right("dead", 0, 0x1B, DROP);
        right("dead, it puts ANY", 0, 0x1B, 0x7C, DROP);
        right("of two ANYs, ANY again", 0, 0x1B, Kit.i32(0), 0x1B, 0x99, DROP);
    }

    private static void locals() {
        Kit.sentence("0x20 puts a local's type, 0x21 takes it, 0x22 takes and puts it");
        byte[] type = Kit.type(Kit.of(I, L));
        body("0x20", type, 0, 0, 0x20, 0, 0x45, DROP, 0x20, 1, 0x50, DROP);
        body("0x20 of another type", type, 21, 2, 0x20, 1, 0x45, DROP);
        body("0x21", type, 0, 0, Kit.i32(0), 0x21, 0);
        body("0x21 of another type", type, 21, 2, Kit.i32(0), 0x21, 1);
        body("0x21 of nothing", type, 21, 0, 0x21, 1);
        body("0x21 puts nothing", type, 21, 4, Kit.i32(0), 0x21, 0, DROP);
        body("0x22", type, 0, 0, Kit.i64(0), 0x22, 1, 0x50, DROP);
        body("0x22 of another type", type, 21, 2, Kit.i32(0), 0x22, 1, DROP);
        body("0x22 of nothing", type, 21, 0, 0x22, 1, DROP);
        body("0x22 dead puts its type", type, 21, 3, 0, 0x22, 1, 0x45, DROP);
        for (int op : new int[] {0x20, 0x21, 0x22}) {
            body("of none, " + op, type, 20, 0, op, 2, DROP);
            body("of 2 to the power of 31, " + op, type, 20, 0, op, Kit.count(0x80000000L), DROP);
            body("of none, dead, " + op, type, 20, 1, 0, op, 2, DROP);
        }
    }

    private static void variables() {
        Kit.sentence("0x23 puts a variable's, 0x24 takes it (20 if it is not there; 23 if it is fixed).");
        byte[] head = Kit.module(Kit.sectionOf(1, VOID_TYPE), Kit.section(2, 2, 0, 0, 3, F, 0, 0, 0, 3, D, 1), 3, 2, 1,
                0, Kit.section(6, 1, L, 1, Kit.i64(0), 11));
        called("0x23", head, 0, 0, 0x23, 0, 0x8B, DROP, 0x23, 1, 0x99, DROP, 0x23, 2, 0x50, DROP);
        called("0x23 of another type", head, 21, 2, 0x23, 2, 0x45, DROP);
        called("0x24", head, 0, 0, Kit.i64(1), 0x24, 2);
        called("0x24 of an imported one", head, 0, 0, Kit.f64(1), 0x24, 1);
        called("0x24 of another type", head, 21, 2, Kit.i32(1), 0x24, 2);
        called("0x24 of nothing", head, 21, 0, 0x24, 2);
        called("0x24 of a fixed one", head, 23, 5, Kit.f32(1), 0x24, 0);
        for (int op : new int[] {0x23, 0x24}) {
            called("of none, " + op, head, 20, 0, op, 3);
            called("of 2 to the power of 31, " + op, head, 20, 0, op, Kit.count(0x80000000L));
            called("of none, dead, " + op, head, 20, 1, 0, op, 3);
        }
    }

    private static byte[] withMemory() {
        return Kit.module(Kit.sectionOf(1, VOID_TYPE), 3, 2, 1, 0, 5, 3, 1, 0, 0);
    }

    private static final int[] MEMORY_TYPES = {I, L, F, D, I, I, I, I, L, L, L, L, L, L, I, L, F, D, I, I, L, L, L};
    private static final int[] POWERS = {2, 3, 2, 3, 0, 0, 1, 1, 0, 0, 1, 1, 2, 2, 2, 3, 2, 3, 0, 1, 0, 1, 2};

    private static void memoriesThere() {
        Kit.sentence("0x28 .. 0x3E: there must be a memory (20)");
        byte[] imported = Kit.module(Kit.sectionOf(1, VOID_TYPE), 2, 6, 1, 0, 0, 2, 0, 0, 3, 2, 1, 0);
        for (int op = 0x28; op <= 0x3E; op++) {
            plain("none, " + op, 20, 0, op, 0, 0);
            plain("none, dead, " + op, 20, 1, 0, op, 0, 0);
            called("its own, " + op, withMemory(), 0, 0, 0, op, 0, 0, op < 0x36 ? Kit.bytes(DROP) : Kit.bytes());
            called("an imported one, " + op, imported, 0, 0, 0, op, 0, 0, op < 0x36 ? Kit.bytes(DROP) : Kit.bytes());
        }
    }

    private static void powers() {
        Kit.sentence("and 2 to the power of the first count written must be at most the number of bytes (22)");
        for (int op = 0x28; op <= 0x3E; op++) {
            byte[] behind = op < 0x36 ? Kit.bytes(DROP) : Kit.bytes();
            long[] written = {0, 1, 2, 3, 4, 5, 31, 32, 33, 63, 64, 0x7FFFFFFFL, 0x80000000L, 0xFFFFFFFFL};
            for (long power : written) {
                called(op + " with " + power, withMemory(), power <= POWERS[op - 0x28] ? 0 : 22, 1, 0, op,
                        Kit.count(power), 0, behind);
            }
            called("the second count may be any", withMemory(), 0, 0, 0, op, 0, Kit.count(0xFFFFFFFFL), behind);
        }
    }

    private static void loadsAndStores() {
        Kit.sentence("loads take I and put their type, stores take their type, then I");
        for (int op = 0x28; op <= 0x3E; op++) {
            int type = MEMORY_TYPES[op - 0x28];
            for (int other : TYPES) {
                byte[] value = constant(other);
                if (op < 0x36) {
                    called(op + " of " + other, withMemory(), other == I ? 0 : 21, value.length, value, op, 0, 0, DROP);
                    called(op + " puts, " + other, withMemory(), other == type ? 0 : 21, 5, Kit.i32(0), op, 0, 0,
                            tests(other), DROP);
                } else {
                    called(op + " of I and " + other, withMemory(), other == type ? 0 : 21, 2 + value.length,
                            Kit.i32(0), value, op, 0, 0);
                    called(op + " of " + other + " and its own", withMemory(), other == I ? 0 : 21,
                            value.length + constant(type).length, value, constant(type), op, 0, 0);
                }
            }
            called(op + " of nothing", withMemory(), 21, 0, op, 0, 0);
        }
        called("stores put nothing", withMemory(), 21, 7, Kit.i32(0), Kit.i32(0), 0x36, 0, 0, DROP);
    }

    private static void pages() {
        Kit.sentence("0x3F puts I, 0x40 takes and puts I (20 without a memory).");
        for (int type : TYPES) {
            called("0x3F", withMemory(), type == I ? 0 : 21, 2, 0x3F, 0, tests(type), DROP);
            called("0x40 puts", withMemory(), type == I ? 0 : 21, 4, Kit.i32(0), 0x40, 0, tests(type), DROP);
            called("0x40 takes", withMemory(), type == I ? 0 : 21, constant(type).length, constant(type), 0x40, 0,
                    DROP);
        }
        called("0x40 of nothing", withMemory(), 21, 0, 0x40, 0, DROP);
        plain("0x3F without a memory", 20, 0, 0x3F, 0, DROP);
        plain("0x40 without a memory", 20, 0, 0x40, 0, DROP);
    }

    private static void numbers() {
        Kit.sentence("All others as part 4 says.");
        int[][] groups = {
            {0x45, 1, I, I}, {0x4F, 2, I, I}, {0x50, 1, L, I}, {0x5A, 2, L, I}, {0x60, 2, F, I}, {0x66, 2, D, I},
            {0x69, 1, I, I}, {0x78, 2, I, I}, {0x7B, 1, L, L}, {0x8A, 2, L, L}, {0x91, 1, F, F}, {0x98, 2, F, F},
            {0x9F, 1, D, D}, {0xA6, 2, D, D}, {0xA7, 1, L, I}, {0xA9, 1, F, I}, {0xAB, 1, D, I}, {0xAD, 1, I, L},
            {0xAF, 1, F, L}, {0xB1, 1, D, L}, {0xB3, 1, I, F}, {0xB5, 1, L, F}, {0xB6, 1, D, F}, {0xB8, 1, I, D},
            {0xBA, 1, L, D}, {0xBB, 1, F, D}, {0xBC, 1, F, I}, {0xBD, 1, D, L}, {0xBE, 1, I, F}, {0xBF, 1, L, D}};
        int group = 0;
        for (int op = 0x45; op <= 0xBF; op++) {
            while (op > groups[group][0]) {
                group++;
            }
            numberIs(op, groups[group][1], groups[group][2], groups[group][3]);
        }
        right("0x01", 1, 1);
        for (int k = 0; k < 4; k++) {
            for (int type : TYPES) {
                byte[] number = constant(TYPES[k]);
                plain("0x41 and " + k, TYPES[k] == type ? 0 : 21, number.length, number, tests(type), DROP);
            }
        }
    }

    private static void numberIs(int op, int taken, int type, int put) {
        byte[] operand = constant(type);
        byte[] before = taken == 1 ? operand : Kit.join(operand, operand);
        for (int other : TYPES) {
            byte[] value = constant(other);
            byte[] last = taken == 1 ? value : Kit.join(operand, value);
            body("instruction " + op + " of " + other, Kit.type(Kit.of(), put), other == type ? 0 : 21, last.length,
                    last, op);
            if (taken == 2) {
                byte[] first = Kit.join(value, operand);
                body("instruction " + op + " of " + other + " first", Kit.type(Kit.of(), put), other == type ? 0 : 21,
                        first.length, first, op);
            }
            body("instruction " + op + " puts " + other, Kit.type(Kit.of(), other), other == put ? 0 : 21,
                    before.length + 1, before, op);
        }
        byte[] fewer = taken == 1 ? Kit.bytes() : operand;
        body("instruction " + op + " of one less", Kit.type(Kit.of(), put), 21, fewer.length, fewer, op);
    }

    private static int roomOf(byte[] type, Object... instructions) {
        StackHost x = new StackHost();
        Kit.load(x, Kit.module(Kit.sectionOf(1, type), 3, 2, 1, 0, Kit.section(10, 1, Kit.body(instructions))));
        Kit.same("load", x.fault(0), 0);
        return x.room(0, 0);
    }

    private static void rooms() {
        Kit.sentence("A body's ROOM is the greatest number of operand types that there ever were in its check; the "
                + "type that is put with the body's own end counts, too.");
        byte[] result = Kit.type(Kit.of(), I);
        Kit.same("nothing", roomOf(VOID_TYPE), 0);
        Kit.same("one", roomOf(VOID_TYPE, Kit.i32(0), DROP), 1);
        Kit.same("parameters are no operands", roomOf(Kit.type(Kit.of(I, I, I))), 0);
        Kit.same("three at once", roomOf(VOID_TYPE, Kit.i32(0), Kit.i32(0), Kit.i32(0), 0x6A, 0x6A, DROP, Kit.i32(0),
                DROP), 3);
        Kit.same("a result", roomOf(result, Kit.i32(0)), 1);
        Kit.same("the body's end puts its type", roomOf(result, 0), 1);
        Kit.same("a block's end puts its type", roomOf(VOID_TYPE, 2, I, 0, 11, DROP), 1);
        Kit.same("dead ones count", roomOf(VOID_TYPE, 0, Kit.i32(0), Kit.i32(0), DROP, DROP), 2);
        Kit.same("dead takes away", roomOf(VOID_TYPE, Kit.i32(0), 0, Kit.i32(0), DROP), 1);
        Kit.same("0x0D when dead", roomOf(result, 0, 0x0D, 0), 1);
        Kit.same("0x22 when dead", roomOf(Kit.type(Kit.of(I)), 0, 0x22, 0, DROP), 1);
        Kit.same("0x0D without a type when dead", roomOf(VOID_TYPE, 0, 0x0D, 0), 0);
        Kit.same("across blocks", roomOf(VOID_TYPE, Kit.i32(0), 2, I, Kit.i32(0), Kit.i32(0), 0x6A, 11, 0x6A, DROP), 3);
        Kit.same("a call's result", roomOf(result, 0x10, 0), 1);
        Kit.same("a call's parameters", roomOf(Kit.type(Kit.of(I, I)), Kit.i32(0), Kit.i32(0), 0x10, 0), 2);
        byte[] tall = new byte[2 * 5000];
        byte[] drops = new byte[5000];
        for (int k = 0; k < 5000; k++) {
            tall[2 * k] = 0x41;
            drops[k] = DROP;
        }
        Kit.same("5000", roomOf(VOID_TYPE, tall, drops), 5000);
        // Of two bodies each has its own.
        StackHost x = new StackHost();
        Kit.load(x, Kit.module(Kit.sectionOf(1, VOID_TYPE), 3, 3, 2, 0, 0,
                Kit.section(10, 2, Kit.body(Kit.i32(0), Kit.i32(0), DROP, DROP), Kit.body(Kit.i32(0), DROP))));
        Kit.same("the first of two", x.room(0, 0), 2);
        Kit.same("the second of two", x.room(0, 1), 1);
    }
}
