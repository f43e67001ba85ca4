/** Part 5 of the terms, sentence by sentence: instances, their names, what they import, and the faults 41 to 46. */
public final class InstancesTest {
    private static final int I = Kit.I;
    private static final int L = Kit.L;
    private static final int F = Kit.F;
    private static final int D = Kit.D;
    private static final int[] TYPES = {I, L, F, D};
    private static final byte[] NOTHING = Kit.bytes();
    private static final byte[] VOID_TYPE = Kit.type(Kit.of());

    public static void main(String[] args) {
        importedAndOwn();
        latestNamed();
        theHostsName();
        theHostsExports();
        importsInOrder();
        noInstance();
        noExport();
        otherKinds();
        functionsFit();
        tablesFit();
        memoriesFit();
        mostsFit();
        variablesFit();
        manyInstances();
        manyFunctions();
        manyVariables();
        manyElements();
        manyPages();
        importsBeforeLimits();
        newThings();
        nothingOfEarlierOnes();
        elementsBeyond();
        dataBeyond();
        nothingIsChanged();
        rowByRow();
        starting();
        Kit.close();
    }

    private static byte[] imported(String instance, String export, int... what) {
        return Kit.join(Kit.text(instance), Kit.text(export), Kit.bytes(what));
    }

    private static byte[] importing(byte[]... imports) {
        return Kit.module(Kit.sectionOf(2, imports));
    }

    /** Instantiates a module that must be valid, and looks for a fault. */
    private static void links(String what, StackHost x, int code, int place, byte[] module) {
        int loaded = Kit.load(x, module);
        Kit.same(what + ", load", x.fault(0), 0);
        int made = x.instantiate(loaded);
        Kit.same(what + ", fault", x.fault(0), code);
        Kit.same(what + ", place", x.fault(1), place);
        Kit.same(what + ", made", made >= 0 ? 1 : made, code == 0 ? 1 : -1);
    }

    private static byte[] constantly(int number) {
        return Kit.module(Kit.section(6, 1, I, 0, Kit.i32(number), 11), Kit.sectionOf(7, Kit.export("v", 3, 0)));
    }

    private static long seen(StackHost x, String name) {
        return x.variable(Kit.instance(x, importing(imported(name, "v", 3, I, 0))), 0);
    }

    private static void importedAndOwn() {
        Kit.sentence("A module is made an INSTANCE, with functions, a table, a memory and variables: those imported, "
                + "which are others' or the host's, and its own.");
        StackHost x = new StackHost();
        byte[] owner = Kit.module(Kit.sectionOf(1, Kit.type(Kit.of(), I)), 3, 2, 1, 0, 4, 4, 1, 112, 0, 2, 5, 3, 1, 0,
                1, Kit.section(6, 2, I, 1, Kit.i32(5), 11, I, 0, Kit.i32(6), 11),
                Kit.sectionOf(7, Kit.export("f", 0, 0), Kit.export("t", 1, 0), Kit.export("m", 2, 0),
                Kit.export("v", 3, 0), Kit.export("w", 3, 1)), Kit.sectionOf(10, Kit.body(0x23, 0)));
        int first = Kit.instance(x, owner);
        Kit.name(x, first, "o");
        // 0x23 1 of the user is the second imported variable, which is fixed.
        byte[] user = Kit.module(Kit.sectionOf(1, Kit.type(Kit.of(), I)), Kit.sectionOf(2, imported("o", "v", 3, I, 1),
                imported("o", "f", 0, 0), imported("o", "t", 1, 112, 0, 0), imported("o", "m", 2, 0, 0),
                imported("o", "w", 3, I, 0)), 3, 2, 1, 0, Kit.section(6, 2, I, 0, 0x23, 1, 11, L, 1, Kit.i64(8), 11),
                Kit.sectionOf(7, Kit.export("g", 0, 1), Kit.export("f", 0, 0), Kit.export("v", 3, 0)),
                Kit.section(9, 1, 0, Kit.i32(0), 11, 2, 1, 0), Kit.sectionOf(10,
                Kit.body(Kit.i32(9), 0x24, 0, Kit.i32(77), Kit.i32(78), 0x36, 0, 0, 0x10, 0)));
        int second = Kit.instance(x, user);
        Kit.same("an own variable from an imported one", x.variable(second, 2), 6);
        Kit.same("an own one", x.variable(second, 3), 8);
        Kit.same("run", Kit.callOf(x, second, 0), 0);
        Kit.same("the owner's function sees the variable", x.result(), 9);
        Kit.same("the owner's variable", x.variable(first, 0), 9);
        Kit.same("the user's variable", x.variable(second, 0), 9);
        Kit.same("the owner's memory", x.peek(first, 77), 78);
        x.poke(first, 78, 3);
        Kit.same("the user's memory", x.peek(second, 78), 3);
        Kit.same("the table has the user's function", x.element(first, 0), 65536 + 1);
        Kit.same("and the owner's", x.element(second, 1), 0);
        // Two instances of one module share nothing of their own.
        int third = x.instantiate(0);
        Kit.same("a new variable", x.variable(third, 0), 5);
        Kit.same("a new memory", x.peek(third, 77), 0);
        Kit.same("a new table", x.element(third, 0), -1);
        // Through a third one.
        Kit.name(x, second, "u");
        int last = Kit.instance(x, Kit.module(Kit.sectionOf(1, Kit.type(Kit.of(), I)),
                Kit.sectionOf(2, imported("u", "f", 0, 0), imported("u", "v", 3, I, 1)),
                Kit.sectionOf(7, Kit.export("f", 0, 0))));
        Kit.same("run", Kit.callOf(x, last, 0), 0);
        Kit.same("a function through two", x.result(), 9);
        Kit.same("a variable through two", x.variable(last, 0), 9);
    }

    private static void latestNamed() {
        Kit.sentence("Instances can have NAMES; of several with one name the latest named is meant.");
        StackHost x = new StackHost();
        int first = Kit.instance(x, constantly(1));
        int second = Kit.instance(x, constantly(2));
        Kit.name(x, second, "a");
        Kit.same("one has it", seen(x, "a"), 2);
        Kit.name(x, first, "a");
        Kit.same("the latest named, not the latest made", seen(x, "a"), 1);
        Kit.name(x, second, "a");
        Kit.same("named again", seen(x, "a"), 2);
        Kit.name(x, first, "b");
        Kit.same("another name", seen(x, "b"), 1);
        Kit.same("the other one stays", seen(x, "a"), 2);
        Kit.name(x, second, "c");
        Kit.same("a second name of one", seen(x, "c"), 2);
        Kit.same("its first one stays", seen(x, "a"), 2);
    }

    private static void theHostsName() {
        Kit.sentence("The host's name is the bytes 104 111 115 116, always: also when an instance has that name, "
                + "imports from it are the host's");
        StackHost x = new StackHost();
        byte[] type = Kit.sectionOf(1, Kit.type(Kit.of(I)));
        links("host", x, 0, 0, Kit.module(type, Kit.sectionOf(2, imported("host", "i", 0, 0))));
        for (String other : new String[] {"hosT", "Host", "hos", "hosts", "", "ghost"}) {
            links(other, x, 41, 0, Kit.module(type, Kit.sectionOf(2, imported(other, "i", 0, 0))));
        }
        Kit.name(x, Kit.instance(x, constantly(3)), "host");
        links("what an instance of that name exports is not meant", x, 42, 0, importing(imported("host", "v", 3, I,
                0)));
        links("the host's still", x, 0, 0, Kit.module(type, Kit.sectionOf(2, imported("host", "i", 0, 0))));
    }

    private static void theHostsExports() {
        Kit.sentence("it exports functions without results named by the bytes 105, 108, 102, 100, with one parameter "
                + "I, L, F, D");
        String[] names = {"i", "l", "f", "d"};
        for (int a = 0; a < 4; a++) {
            for (int b = 0; b < 4; b++) {
                links(names[a] + " with type " + b, new StackHost(), a == b ? 0 : 43, 0,
                        Kit.module( Kit.sectionOf(1, Kit.type(Kit.of(TYPES[b]))),
                        Kit.sectionOf(2, imported("host", names[a], 0, 0))));
            }
        }
        StackHost x = new StackHost();
        byte[] type = Kit.sectionOf(1, Kit.type(Kit.of(I)), Kit.type(Kit.of(I), I), VOID_TYPE, Kit.type(Kit.of(I, I)));
        for (int k = 1; k <= 3; k++) {
            links("type " + k, x, 43, 0, Kit.module(type, Kit.sectionOf(2, imported("host", "i", 0, k))));
        }
        for (String other : new String[] {"x", "", "ii", "I", "j"}) {
            links(other, x, 42, 0, Kit.module(type, Kit.sectionOf(2, imported("host", other, 0, 0))));
        }
        links("a variable", x, 43, 0, importing(imported("host", "i", 3, I, 0)));
        links("a memory", x, 43, 0, importing(imported("host", "d", 2, 0, 0)));
        links("a table", x, 43, 0, importing(imported("host", "f", 1, 112, 0, 0)));
        links("a variable that is not there", x, 42, 0, importing(imported("host", "v", 3, I, 0)));
        // Also where there is an imported function of the same number, which would fit.
        int[][] others = {{1, 112, 0, 0}, {2, 0, 0}, {3, I, 0}};
        for (int[] other : others) {
            links("a function and kind " + other[0], x, 43, 1, Kit.module(type, Kit.sectionOf(2,
                    imported("host", "i", 0, 0), imported("host", "i", other))));
        }
        // The host's, exported again by an instance.
        int again = Kit.instance(x, Kit.module(type, Kit.sectionOf(2, imported("host", "i", 0, 0)),
                Kit.sectionOf(7, Kit.export("out", 0, 0))));
        Kit.name(x, again, "again");
        links("again", x, 0, 0, Kit.module(type, Kit.sectionOf(2, imported("again", "out", 0, 0))));
        links("again, of another type", x, 43, 0, Kit.module(type, Kit.sectionOf(2, imported("again", "out", 0, 1))));
    }

    private static void importsInOrder() {
        Kit.sentence("First each import, in its order, is looked up (what fails it is its FAULT, its place the "
                + "import's number)");
        StackHost x = new StackHost();
        Kit.name(x, Kit.instance(x, constantly(1)), "a");
        byte[] right = imported("a", "v", 3, I, 0);
        byte[] unnamed = imported("z", "v", 3, I, 0);
        byte[] missing = imported("a", "w", 3, I, 0);
        byte[] unfit = imported("a", "v", 3, L, 0);
        links("all are right", x, 0, 0, importing(right, right, right));
        links("the second", x, 41, 1, importing(right, unnamed));
        links("the third", x, 42, 2, importing(right, right, missing, unnamed));
        links("the first of two", x, 43, 0, importing(unfit, unnamed));
        links("the first of two", x, 42, 0, importing(missing, unfit));
        links("the first of two", x, 41, 1, importing(right, unnamed, missing));
    }

    private static void noInstance() {
        Kit.sentence("41, no instance has the first name");
        StackHost x = new StackHost();
        byte[] wanting = importing(imported("a", "v", 3, I, 0));
        links("there are none", x, 41, 0, wanting);
        int made = Kit.instance(x, constantly(1));
        links("it has no name", x, 41, 0, wanting);
        Kit.name(x, made, "aa");
        links("a longer name", x, 41, 0, wanting);
        x.name(made);
        links("the empty name", x, 41, 0, wanting);
        Kit.name(x, made, "b");
        links("another name", x, 41, 0, wanting);
        Kit.name(x, made, "a");
        links("that name", x, 0, 0, wanting);
        Kit.same("the empty name is one, too", seen(x, ""), 1);
        Kit.same("and the longer one", seen(x, "aa"), 1);
    }

    private static void noExport() {
        Kit.sentence("42, it has no such export");
        StackHost x = new StackHost();
        int none = Kit.instance(x, Kit.module());
        Kit.name(x, none, "n");
        links("it exports nothing", x, 42, 0, importing(imported("n", "", 3, I, 0)));
        Kit.name(x, Kit.instance(x, constantly(1)), "a");
        for (String other : new String[] {"", "w", "vv", "V"}) {
            links("v is not " + other, x, 42, 0, importing(imported("a", other, 3, I, 0)));
        }
        links("it is there", x, 0, 0, importing(imported("a", "v", 3, I, 0)));
        Kit.name(x, none, "a");
        links("the latest of that name has none", x, 42, 0, importing(imported("a", "v", 3, I, 0)));
    }

    private static void otherKinds() {
        Kit.sentence("43, that is of another kind, or does not fit");
        StackHost x = new StackHost();
        int made = Kit.instance(x, Kit.module(Kit.sectionOf(1, VOID_TYPE), 3, 2, 1, 0, 4, 4, 1, 112, 0, 0, 5, 3, 1, 0,
                0, Kit.section(6, 1, I, 0, Kit.i32(0), 11), Kit.sectionOf(7, Kit.export("f", 0, 0),
                Kit.export("t", 1, 0), Kit.export("m", 2, 0), Kit.export("v", 3, 0)), Kit.sectionOf(10, Kit.body())));
        Kit.name(x, made, "a");
        String[] names = {"f", "t", "m", "v"};
        int[][] wanted = {{0, 0}, {1, 112, 0, 0}, {2, 0, 0}, {3, I, 0}};
        for (int a = 0; a < 4; a++) {
            for (int b = 0; b < 4; b++) {
                links(names[a] + " as kind " + b, x, a == b ? 0 : 43, 0,
                        Kit.module(Kit.sectionOf(1, VOID_TYPE), Kit.sectionOf(2, imported("a", names[a], wanted[b]))));
            }
        }
    }

    private static void functionsFit() {
        Kit.sentence("a function must have the same type");
        StackHost x = new StackHost();
        int made = Kit.instance(x, Kit.module(Kit.sectionOf(1, Kit.type(Kit.of(I, L), F)), 3, 2, 1, 0,
                Kit.sectionOf(7, Kit.export("f", 0, 0)), Kit.sectionOf(10, Kit.body(Kit.f32(1)))));
        Kit.name(x, made, "a");
        byte[] types = Kit.sectionOf(1, Kit.type(Kit.of(I)), Kit.type(Kit.of(I, L), F), Kit.type(Kit.of(I, L)),
                Kit.type(Kit.of(I, I), F), Kit.type(Kit.of(I, L), D), Kit.type(Kit.of(I, L, L), F),
                Kit.type(Kit.of(L, I), F));
        for (int k = 0; k < 7; k++) {
            links("type " + k, x, k == 1 ? 0 : 43, 0, Kit.module(types, Kit.sectionOf(2, imported("a", "f", 0, k))));
        }
    }

    private static void tablesFit() {
        Kit.sentence("a table or memory now as many elements, or pages, as the least or more");
        StackHost x = new StackHost();
        Kit.name(x, Kit.instance(x, Kit.module(4, 4, 1, 112, 0, 3, Kit.sectionOf(7, Kit.export("t", 1, 0)))), "t");
        for (int least = 0; least <= 5; least++) {
            links("a least of " + least, x, least <= 3 ? 0 : 43, 0, importing(imported("t", "t", 1, 112, 0, least)));
        }
        links("the greatest least", x, 43, 0,
                Kit.module(Kit.section(2, 1, Kit.text("t"), Kit.text("t"), 1, 112, 0, Kit.count(0xFFFFFFFFL))));
    }

    private static byte[] growing(int... limits) {
        return Kit.module(Kit.sectionOf(1, Kit.type(Kit.of(I), I)), 3, 2, 1, 0, Kit.section(5, 1, Kit.bytes(limits)),
                Kit.sectionOf(7, Kit.export("m", 2, 0), Kit.export("g", 0, 0)), Kit.sectionOf(10,
                Kit.body(0x20, 0, 0x40, 0)));
    }

    private static void memoriesFit() {
        Kit.sentence("a table or memory now as many elements, or pages, as the least or more");
        StackHost x = new StackHost();
        int made = Kit.instance(x, growing(0, 2));
        Kit.name(x, made, "m");
        for (int least = 0; least <= 4; least++) {
            links("a least of " + least, x, least <= 2 ? 0 : 43, 0, importing(imported("m", "m", 2, 0, least)));
        }
        links("the greatest least", x, 43, 0, Kit.module(Kit.section(2, 1, Kit.text("m"), Kit.text("m"), 2, 0,
                Kit.count(65536))));
        Kit.callOf(x, made, 1, 1);
        links("it has grown: now three", x, 0, 0, importing(imported("m", "m", 2, 0, 3)));
        links("not four", x, 43, 0, importing(imported("m", "m", 2, 0, 4)));
    }

    private static void mostsFit() {
        Kit.sentence("and, if the import has a most, a most, too, that is no greater");
        StackHost x = new StackHost();
        Kit.name(x, Kit.instance(x, Kit.module(4, 5, 1, 112, 1, 3, 7, Kit.sectionOf(7, Kit.export("t", 1, 0)))), "b");
        Kit.name(x, Kit.instance(x, Kit.module(4, 4, 1, 112, 0, 3, Kit.sectionOf(7, Kit.export("t", 1, 0)))), "u");
        for (int most = 5; most <= 9; most++) {
            links("a table's most of " + most, x, most >= 7 ? 0 : 43, 0, importing(imported("b", "t", 1, 112, 1, 0,
                    most)));
            links("a table without one", x, 43, 0, importing(imported("u", "t", 1, 112, 1, 0, most)));
        }
        links("an import without one", x, 0, 0, importing(imported("b", "t", 1, 112, 0, 0)));
        links("the least is looked at, too", x, 43, 0, importing(imported("b", "t", 1, 112, 1, 4, 7)));
        links("the greatest most, of a table without one", x, 43, 0,
                Kit.module(Kit.section(2, 1, Kit.text("u"), Kit.text("t"), 1, 112, 1, 0, Kit.count(0xFFFFFFFFL))));
        links("the greatest most", x, 0, 0,
                Kit.module(Kit.section(2, 1, Kit.text("b"), Kit.text("t"), 1, 112, 1, 0, Kit.count(0xFFFFFFFFL))));
        int bounded = Kit.instance(x, growing(1, 1, 4));
        Kit.name(x, bounded, "bm");
        Kit.name(x, Kit.instance(x, growing(0, 1)), "um");
        Kit.callOf(x, bounded, 1, 1);
        for (int most = 2; most <= 6; most++) {
            links("a memory's most of " + most, x, most >= 4 ? 0 : 43, 0, importing(imported("bm", "m", 2, 1, 1,
                    most)));
        }
        links("a memory without one", x, 43, 0, importing(imported("um", "m", 2, 1, 1, 16)));
        // What counts is the table's own most, also where it was imported without one.
        int between = Kit.instance(x, Kit.module(Kit.sectionOf(2, imported("b", "t", 1, 112, 0, 0)),
                Kit.sectionOf(7, Kit.export("t", 1, 0))));
        Kit.name(x, between, "through");
        links("through another", x, 0, 0, importing(imported("through", "t", 1, 112, 1, 3, 7)));
        links("through another", x, 43, 0, importing(imported("through", "t", 1, 112, 1, 3, 6)));
    }

    private static void variablesFit() {
        Kit.sentence("a variable the same type, fixed or changing alike");
        for (int type : TYPES) {
            for (int kind = 0; kind < 2; kind++) {
                StackHost x = new StackHost();
                byte[] number = type == I ? Kit.i32(7) : type == L ? Kit.i64(7) : type == F ? Kit.f32(7) : Kit.f64(7);
                Kit.name(x, Kit.instance(x, Kit.module(Kit.section(6, 1, type, kind, number, 11),
                        Kit.sectionOf(7, Kit.export("v", 3, 0)))), "a");
                for (int wanted : TYPES) {
                    links("type " + type + " for " + wanted, x, wanted == type ? 0 : 43, 0,
                            importing(imported("a", "v", 3, wanted, kind)));
                    links("not alike", x, 43, 0, importing(imported("a", "v", 3, wanted, 1 - kind)));
                }
            }
        }
    }

    private static void manyInstances() {
        Kit.sentence("Then 44, place 0: there are 24 instances");
        StackHost x = new StackHost();
        Kit.load(x, Kit.module());
        for (int k = 0; k < 24; k++) {
            Kit.same("instantiate", x.instantiate(0), k);
        }
        for (int k = 0; k < 2; k++) {
            Kit.same("the 25th", x.instantiate(0), -1);
            Kit.same("fault(0)", x.fault(0), 44);
            Kit.same("fault(1)", x.fault(1), 0);
        }
        Kit.outside("no more are there", () -> x.pages(24));
        Kit.same("the last is there", x.pages(23), -1);
    }

    private static byte[] functions(int n) {
        byte[][] numbers = new byte[n][];
        byte[][] bodies = new byte[n][];
        for (int k = 0; k < n; k++) {
            numbers[k] = Kit.bytes(0);
            bodies[k] = Kit.body();
        }
        return Kit.module(Kit.sectionOf(1, VOID_TYPE), Kit.sectionOf(3, numbers),
                Kit.sectionOf(7, Kit.export("f", 0, 0)), Kit.sectionOf(10, bodies));
    }

    private static void manyFunctions() {
        Kit.sentence("with its own (imported ones are counted only where they are an instance's own, the host's "
                + "nowhere) all functions would be more than 8192");
        StackHost x = new StackHost();
        Kit.load(x, functions(1000));
        for (int k = 0; k < 8; k++) {
            Kit.same("1000 more", x.instantiate(0), k);
        }
        Kit.same("1000 more", x.instantiate(0), -1);
        Kit.same("fault(0)", x.fault(0), 44);
        links("193 more", x, 44, 0, functions(193));
        links("192 more", x, 0, 0, functions(192));
        Kit.name(x, 0, "a");
        links("imported ones", x, 0, 0, Kit.module(Kit.sectionOf(1, VOID_TYPE, Kit.type(Kit.of(I))),
                Kit.sectionOf(2, imported("a", "f", 0, 0), imported("host", "i", 0, 1))));
        links("one more", x, 44, 0, functions(1));
        links("none more", x, 0, 0, Kit.module());
        StackHost y = new StackHost();
        links("8193 at once", y, 44, 0, functions(8193));
        links("8192 at once", y, 0, 0, functions(8192));
    }

    private static byte[] variables(int n) {
        byte[][] all = new byte[n][];
        for (int k = 0; k < n; k++) {
            all[k] = Kit.join(I, 0, Kit.i32(k), 11);
        }
        return Kit.module(Kit.sectionOf(6, all), Kit.sectionOf(7, Kit.export("v", 3, 0)));
    }

    private static void manyVariables() {
        Kit.sentence("all variables more than 4096");
        StackHost x = new StackHost();
        Kit.load(x, variables(1000));
        for (int k = 0; k < 4; k++) {
            Kit.same("1000 more", x.instantiate(0), k);
        }
        links("97 more", x, 44, 0, variables(97));
        links("96 more", x, 0, 0, variables(96));
        Kit.name(x, 0, "a");
        links("an imported one", x, 0, 0, importing(imported("a", "v", 3, I, 0)));
        links("an imported one, and one more", x, 44, 0, Kit.join(importing(imported("a", "v", 3, I, 0)),
                Kit.section(6, 1, I, 0, Kit.i32(1), 11)));
        Kit.same("the last one", x.variable(4, 95), 95);
        StackHost y = new StackHost();
        links("4097 at once", y, 44, 0, variables(4097));
        links("4096 at once", y, 0, 0, variables(4096));
    }

    private static byte[] table(long elements) {
        return Kit.module(Kit.section(4, 1, 112, 0, Kit.count(elements)), Kit.sectionOf(7, Kit.export("t", 1, 0)));
    }

    private static void manyElements() {
        Kit.sentence("all tables have more than 16384 elements");
        StackHost x = new StackHost();
        links("16385", x, 44, 0, table(16385));
        links("2 to the power of 31", x, 44, 0, table(0x80000000L));
        links("as many as can be written", x, 44, 0, table(0xFFFFFFFFL));
        Kit.name(x, Kit.instance(x, table(16380)), "a");
        links("5 more", x, 44, 0, table(5));
        links("4 more", x, 0, 0, table(4));
        links("one more", x, 44, 0, table(1));
        links("none more", x, 0, 0, table(0));
        links("an imported table", x, 0, 0, importing(imported("a", "t", 1, 112, 0, 0)));
        StackHost y = new StackHost();
        links("16384 at once, of a most that is more", y, 0, 0,
                Kit.module(Kit.section(4, 1, 112, 1, Kit.count(16384), Kit.count(0xFFFFFFFFL))));
        Kit.same("the last one", y.element(0, 16383), -1);
    }

    private static void manyPages() {
        Kit.sentence("or all memories more than 16 pages (its own have their least)");
        StackHost x = new StackHost();
        links("17", x, 44, 0, growing(0, 17));
        links("65536", x, 44, 0, Kit.module(Kit.section(5, 1, 0, Kit.count(65536))));
        links("10, of a most that is more", x, 0, 0, growing(1, 10, 100));
        Kit.name(x, 0, "a");
        links("7 more", x, 44, 0, growing(0, 7));
        Kit.callOf(x, 0, 1, 5);
        Kit.same("it has grown", x.pages(0), 15);
        links("2 more", x, 44, 0, growing(0, 2));
        links("1 more", x, 0, 0, growing(0, 1));
        links("1 more", x, 44, 0, growing(0, 1));
        links("none more", x, 0, 0, growing(0, 0));
        links("an imported memory", x, 0, 0, importing(imported("a", "m", 2, 0, 15)));
        StackHost y = new StackHost();
        links("16 at once", y, 0, 0, growing(0, 16));
    }

    private static void importsBeforeLimits() {
        Kit.sentence("Then 44, place 0");
        StackHost x = new StackHost();
        Kit.name(x, Kit.instance(x, constantly(1)), "a");
        byte[] large = Kit.bytes(5, 3, 1, 0, 17);
        links("41 comes before", x, 41, 0, Kit.join(importing(imported("z", "v", 3, I, 0)), large));
        links("43 comes before", x, 43, 1, Kit.join(importing(imported("a", "v", 3, I, 0), imported("a", "v", 3, L, 0)),
                large));
        links("its place is 0", x, 44, 0, Kit.join(importing(imported("a", "v", 3, I, 0), imported("a", "v", 3, I, 0)),
                large));
        links("it comes before 45", x, 44, 0, Kit.module(Kit.section(4, 1, 112, 0, Kit.count(16385)),
                Kit.section(9, 2, 0, Kit.i32(0), 11, 0, 0, Kit.i32(-1), 11, 0)));
        links("it comes before 46", x, 44, 0, Kit.module(large, Kit.section(11, 2, 0, Kit.i32(0), 11, 0, 0, Kit.i32(-1),
                11, 0)));
    }

    private static void newThings() {
        Kit.sentence("Then its variables get their values, its table nothing, its memory zeros.");
        StackHost x = new StackHost();
        Kit.name(x, Kit.instance(x, Kit.module(Kit.section(6, 2, I, 0, Kit.i32(-5), 11, D, 0, Kit.f64(-2.5), 11),
                Kit.sectionOf(7, Kit.export("v", 3, 0), Kit.export("w", 3, 1)))), "a");
        int made = Kit.instance(x, Kit.module(Kit.sectionOf(2, imported("a", "w", 3, D, 0),
                imported("a", "v", 3, I, 0)), Kit.section(4, 1, 112, 0, 3), Kit.section(5, 1, 0, 1),
                Kit.section(6, 6, I, 1, Kit.i32(-1), 11, L, 0, Kit.i64(-1), 11, F, 0, Kit.f32(-0f), 11, D, 1,
                Kit.f64(1), 11, I, 1, 0x23, 1, 11, D, 0, 0x23, 0, 11)));
        long[] due = {Double.doubleToRawLongBits(-2.5), 0xFFFFFFFBL, 0xFFFFFFFFL, -1, 0x80000000L,
                Double.doubleToRawLongBits(1), 0xFFFFFFFBL, Double.doubleToRawLongBits(-2.5)};
        for (int k = 0; k < due.length; k++) {
            Kit.same("variable(" + k + ")", x.variable(made, k), due[k]);
        }
        for (int k = 0; k < 3; k++) {
            Kit.same("element(" + k + ")", x.element(made, k), -1);
        }
        for (int at : new int[] {0, 1, 32768, 65535}) {
            Kit.same("peek(" + at + ")", x.peek(made, at), 0);
        }
        // Also where an instance before it has written.
        x.poke(made, 65535, 9);
        int other = Kit.instance(x, Kit.module(Kit.section(4, 1, 112, 0, 3), Kit.section(5, 1, 0, 1)));
        Kit.same("zeros", x.peek(other, 0), 0);
        Kit.same("nothing", x.element(other, 0), -1);
    }

    private static void nothingOfEarlierOnes() {
        Kit.sentence("those imported, which are others' or the host's, and its own");
        StackHost x = new StackHost();
        int owner = Kit.instance(x, Kit.module(Kit.sectionOf(1, VOID_TYPE), Kit.section(3, 1, 0),
                Kit.section(4, 1, 112, 0, 5), Kit.section(5, 1, 0, 2), Kit.section(6, 1, I, 0, Kit.i32(0), 11),
                Kit.sectionOf(7, Kit.export("t", 1, 0), Kit.export("m", 2, 0), Kit.export("v", 3, 0),
                Kit.export("f", 0, 0)), Kit.sectionOf(10, Kit.body())));
        Kit.name(x, owner, "o");
        byte[] all = Kit.sectionOf(2, imported("o", "t", 1, 112, 0, 0), imported("o", "m", 2, 0, 0),
                imported("o", "v", 3, I, 0), imported("o", "f", 0, 0));
        byte[] importing = Kit.module(Kit.sectionOf(1, VOID_TYPE), all);
        byte[] failing = Kit.module(Kit.sectionOf(1, VOID_TYPE), all, Kit.section(11, 1, 0, Kit.i32(-1), 11, 0));
        for (byte[] before : new byte[][] {importing, failing}) {
            links("one that imports all", x, before == importing ? 0 : 46, 0, before);
            int none = Kit.instance(x, Kit.module());
            Kit.same("one behind it has no memory", x.pages(none), -1);
            Kit.outside("and no table", () -> x.element(none, 0));
            Kit.outside("and no variable", () -> x.variable(none, 0));
            links("one that imports all", x, before == importing ? 0 : 46, 0, before);
            links("the rows of one with a smaller table", x, 45, 0, Kit.module(Kit.section(4, 1, 112, 0, 1),
                    Kit.section(9, 1, 0, Kit.i32(2), 11, 0)));
            links("one that imports all", x, before == importing ? 0 : 46, 0, before);
            links("the rows of one with a smaller memory", x, 46, 0, Kit.module(Kit.section(5, 1, 0, 1),
                    Kit.section(11, 1, 0, Kit.i32(65537), 11, 0)));
            links("one that imports all", x, before == importing ? 0 : 46, 0, before);
            links("the rows of one with a larger table", x, 0, 0, Kit.module(Kit.section(4, 1, 112, 0, 9),
                    Kit.section(9, 1, 0, Kit.i32(9), 11, 0)));
        }
    }

    private static byte[] row(byte[] offset, int... items) {
        return Kit.join(0, offset, 11, Kit.sized(Kit.bytes(items)));
    }

    /** A table of five, a memory of a page, one function. */
    private static byte[] withRows(byte[] elements, byte[] data) {
        return Kit.module(Kit.sectionOf(1, VOID_TYPE), 3, 2, 1, 0, 4, 4, 1, 112, 0, 5, 5, 3, 1, 0, 1, elements,
                Kit.sectionOf(10, Kit.body()), data);
    }

    private static void elementsBeyond() {
        Kit.sentence("45: the offset (u) and the length of a row of section 9 together are more than the table has "
                + "(place: the row's number)");
        StackHost x = new StackHost();
        links("up to the end", x, 0, 0, withRows(Kit.sectionOf(9, row(Kit.i32(3), 0, 0)), NOTHING));
        links("beyond the end", x, 45, 0, withRows(Kit.sectionOf(9, row(Kit.i32(4), 0, 0)), NOTHING));
        links("all of it", x, 0, 0, withRows(Kit.sectionOf(9, row(Kit.i32(0), 0, 0, 0, 0, 0)), NOTHING));
        links("one too many", x, 45, 0, withRows(Kit.sectionOf(9, row(Kit.i32(0), 0, 0, 0, 0, 0, 0)), NOTHING));
        links("nothing at the end", x, 0, 0, withRows(Kit.sectionOf(9, row(Kit.i32(5))), NOTHING));
        links("nothing beyond the end", x, 45, 0, withRows(Kit.sectionOf(9, row(Kit.i32(6))), NOTHING));
        links("an offset has no sign", x, 45, 1, withRows(Kit.sectionOf(9, row(Kit.i32(0)), row(Kit.i32(-1), 0)),
                NOTHING));
        links("an offset has no sign, and nothing", x, 45, 0, withRows(Kit.sectionOf(9,
                row(Kit.i32(Integer.MIN_VALUE))), NOTHING));
        links("the first of two", x, 45, 1, withRows(Kit.sectionOf(9, row(Kit.i32(0)), row(Kit.i32(6)),
                row(Kit.i32(7))), NOTHING));
        links("of an empty table", x, 0, 0, Kit.module(4, 4, 1, 112, 0, 0, Kit.sectionOf(9, row(Kit.i32(0)))));
        links("beyond an empty table", x, 45, 0, Kit.module(4, 4, 1, 112, 0, 0, Kit.sectionOf(9, row(Kit.i32(1)))));
        // Of an imported table what counts is how many it has, not what the import asks for.
        Kit.name(x, Kit.instance(x, table(4)), "t");
        byte[] importing = importing(imported("t", "t", 1, 112, 0, 2));
        links("an imported table", x, 0, 0, Kit.join(importing, Kit.sectionOf(9, row(Kit.i32(4)))));
        links("beyond an imported table", x, 45, 0, Kit.join(importing, Kit.sectionOf(9, row(Kit.i32(5)))));
    }

    private static void dataBeyond() {
        Kit.sentence("46: likewise of section 11, and the memory's bytes");
        StackHost x = new StackHost();
        links("up to the end", x, 0, 0, withRows(NOTHING, Kit.sectionOf(11, row(Kit.i32(65534), 1, 2))));
        links("beyond the end", x, 46, 0, withRows(NOTHING, Kit.sectionOf(11, row(Kit.i32(65535), 1, 2))));
        links("nothing at the end", x, 0, 0, withRows(NOTHING, Kit.sectionOf(11, row(Kit.i32(65536)))));
        links("nothing beyond the end", x, 46, 2, withRows(NOTHING, Kit.sectionOf(11, row(Kit.i32(0)),
                row(Kit.i32(1), 5), row(Kit.i32(65537)))));
        links("an offset has no sign", x, 46, 0, withRows(NOTHING, Kit.sectionOf(11, row(Kit.i32(-1), 1))));
        links("45 comes before", x, 45, 1, withRows(Kit.sectionOf(9, row(Kit.i32(0), 0), row(Kit.i32(9), 0)),
                Kit.sectionOf(11, row(Kit.i32(-1), 1))));
        links("of an empty memory", x, 0, 0, Kit.module(5, 3, 1, 0, 0, Kit.sectionOf(11, row(Kit.i32(0)))));
        links("beyond an empty memory", x, 46, 0, Kit.module(5, 3, 1, 0, 0, Kit.sectionOf(11, row(Kit.i32(0), 1))));
        // Of an imported memory what counts is how many pages it has now.
        int grown = Kit.instance(x, growing(0, 1));
        Kit.name(x, grown, "m");
        byte[] module = Kit.join(importing(imported("m", "m", 2, 0, 1)), Kit.sectionOf(11, row(Kit.i32(65536), 7)));
        links("beyond an imported memory", x, 46, 0, module);
        Kit.callOf(x, grown, 1, 1);
        links("when it has grown", x, 0, 0, module);
        Kit.same("peek", x.peek(grown, 65536), 7);
        // An offset that is a variable's value.
        Kit.name(x, Kit.instance(x, constantly(4)), "a");
        byte[] placed = Kit.join(importing(imported("a", "v", 3, I, 0)), 5, 3, 1, 0, 1,
                Kit.sectionOf(11, row(Kit.bytes(0x23, 0), 9)));
        Kit.same("an offset from a variable", x.peek(Kit.instance(x, placed), 4), 9);
    }

    private static void nothingIsChanged() {
        Kit.sentence("All rows of section 9, then all of section 11 are looked at before anything is written; with a "
                + "fault there is no instance, and nothing is changed.");
        StackHost x = new StackHost();
        int made = Kit.instance(x, Kit.module(4, 4, 1, 112, 0, 5, 5, 3, 1, 0, 1,
                Kit.sectionOf(7, Kit.export("t", 1, 0), Kit.export("m", 2, 0))));
        Kit.name(x, made, "a");
        byte[] imports = Kit.sectionOf(2, imported("a", "t", 1, 112, 0, 0), imported("a", "m", 2, 0, 0));
        byte[] head = Kit.join(Kit.sectionOf(1, VOID_TYPE), imports, 3, 2, 1, 0);
        byte[] code = Kit.sectionOf(10, Kit.body());
        links("the second row of elements", x, 45, 1, Kit.module(head, Kit.sectionOf(9, row(Kit.i32(0), 0),
                row(Kit.i32(5), 0)), code, Kit.sectionOf(11, row(Kit.i32(0), 7))));
        links("the second row of data", x, 46, 1, Kit.module(head, Kit.sectionOf(9, row(Kit.i32(0), 0)), code,
                Kit.sectionOf(11, row(Kit.i32(0), 7), row(Kit.i32(65536), 7))));
        Kit.same("no element", x.element(made, 0), -1);
        Kit.same("no byte", x.peek(made, 0), 0);
        Kit.outside("no instance", () -> x.pages(1));
        links("again, with no fault", x, 0, 0, Kit.module(head, Kit.sectionOf(9, row(Kit.i32(0), 0)), code,
                Kit.sectionOf(11, row(Kit.i32(0), 7), row(Kit.i32(65535), 8))));
        Kit.same("an element", x.element(made, 0), 65536);
        Kit.same("a byte", x.peek(made, 0), 7);
        Kit.same("a byte", x.peek(made, 65535), 8);
        Kit.same("pages", x.pages(1), 1);
        // What was refused has taken no room: 15 pages are left, and 8191 functions.
        links("refused for its data", x, 46, 0, withRows(NOTHING, Kit.sectionOf(11, row(Kit.i32(65536), 1))));
        links("refused for its elements", x, 45, 0, withRows(Kit.sectionOf(9, row(Kit.i32(6))), NOTHING));
        links("15 pages", x, 0, 0, Kit.module(5, 3, 1, 0, 15));
        Kit.same("instantiate", Kit.instance(x, functions(4096)), 3);
        links("4096 more", x, 44, 0, functions(4096));
        links("4095 more", x, 0, 0, functions(4095));
        links("16379 elements more", x, 0, 0, table(16379));
        links("one element more", x, 44, 0, table(1));
    }

    private static void rowByRow() {
        Kit.sentence("Then they are written, row by row");
        StackHost x = new StackHost();
        int made = Kit.instance(x, Kit.module(Kit.sectionOf(1, VOID_TYPE), 3, 3, 2, 0, 0, 4, 4, 1, 112, 0, 5, 5, 3, 1,
                0, 1, Kit.sectionOf(9, row(Kit.i32(0), 0, 0, 0), row(Kit.i32(2), 1, 1)),
                Kit.sectionOf(10, Kit.body(), Kit.body()), Kit.sectionOf(11, row(Kit.i32(2), 1, 2, 3, 255),
                row(Kit.i32(3), 9, 8))));
        int[] bytes = {0, 0, 1, 9, 8, 255, 0};
        for (int k = 0; k < bytes.length; k++) {
            Kit.same("peek(" + k + ")", x.peek(made, k), bytes[k]);
        }
        int[] elements = {0, 0, 1, 1, -1};
        for (int k = 0; k < elements.length; k++) {
            Kit.same("element(" + k + ")", x.element(made, k), elements[k]);
        }
    }

    /** A function that starts has all the room, whatever was left by one that was stopped. */
    private static void startsWithNothingOpen() {
        byte[] tall = new byte[3 * 16384];
        for (int k = 0; k < 16384; k++) {
            tall[2 * k] = 0x41;
            tall[2 * 16384 + k] = 0x1A;
        }
        StackHost x = new StackHost();
        int made = Kit.instance(x, Kit.single(VOID_TYPE, Kit.body(tall)));
        x.invoke(made, 0);
        Kit.same("run", x.run(16000), 2);
        Kit.same("stop", x.stop(), 1);
        Kit.instance(x, Kit.module(Kit.sectionOf(1, VOID_TYPE), 3, 2, 1, 0, 8, 1, 0,
                Kit.sectionOf(10, Kit.body(tall))));
        Kit.same("a start with a room of 16384", x.run(1000000), 0);
    }

    private static void starting() {
        Kit.sentence("and the function that starts, if there is one, is INVOKED (part 6), without arguments: those "
                + "that were pushed stay for the next invoke()");
        StackHost x = new StackHost();
        byte[] module = Kit.module(Kit.sectionOf(1, VOID_TYPE, Kit.type(Kit.of(I, I), I)), Kit.section(3, 2, 0, 1), 5,
                3, 1, 0, 1, Kit.section(6, 1, I, 1, Kit.i32(1), 11), Kit.sectionOf(7, Kit.export("f", 0, 0),
                Kit.export("g", 0, 1)), 8, 1, 0, Kit.sectionOf(10, Kit.body(0x23, 0, Kit.i32(0), 0x2D, 0, 0, 0x6A, 0x24,
                0), Kit.body(0x20, 0, 0x20, 1, 0x6B)), Kit.sectionOf(11, row(Kit.i32(0), 2)));
        Kit.load(x, module);
        x.push(50);
        x.push(8);
        Kit.same("instantiate", x.instantiate(0), 0);
        Kit.same("fault(0)", x.fault(0), 0);
        Kit.same("it has not run", x.variable(0, 0), 1);
        Kit.same("calls", x.calls(), 0);
        Kit.illegalState("it is under way", () -> x.instantiate(0));
        Kit.same("run", x.run(4), 2);
        Kit.same("calls", x.calls(), 1);
        Kit.same("run", x.run(1), 0);
        Kit.same("it has run, and seen the data", x.variable(0, 0), 3);
        x.invoke(0, 1);
        Kit.same("run", x.run(10), 0);
        Kit.same("what was pushed is there for invoke", x.result(), 42);
        Kit.same("instantiate", x.instantiate(0), 1);
        Kit.same("stop", x.stop(), 0);
        Kit.same("it is an instance all the same", x.variable(1, 0), 1);
        // One that traps is an instance, too; one that is imported.
        StackHost y = new StackHost();
        int trapping = Kit.instance(y, Kit.module(Kit.sectionOf(1, VOID_TYPE), 3, 2, 1, 0,
                Kit.sectionOf(7, Kit.export("f", 0, 0)), 8, 1, 0, Kit.sectionOf(10, Kit.body(0))));
        Kit.same("run", y.run(1), 1);
        Kit.same("trap(0)", y.trap(0), 1);
        Kit.name(y, trapping, "a");
        int importing = Kit.instance(y, Kit.module(Kit.sectionOf(1, VOID_TYPE), Kit.sectionOf(2,
                imported("a", "f", 0, 0)), 8, 1, 0));
        Kit.same("two", importing, 1);
        Kit.same("run", y.run(1), 1);
        Kit.same("trap(1)", y.trap(1), 0);
        startsWithNothingOpen();
        // With a fault nothing is invoked; without one that starts, too.
        StackHost z = new StackHost();
        Kit.load(z, Kit.module(Kit.sectionOf(1, VOID_TYPE), 3, 2, 1, 0, 5, 3, 1, 0, 17, 8, 1, 0,
                Kit.sectionOf(10, Kit.body(0))));
        Kit.same("instantiate", z.instantiate(0), -1);
        Kit.illegalState("nothing is under way", () -> z.run(1));
        Kit.instance(z, Kit.single(VOID_TYPE, Kit.body(0)));
        Kit.illegalState("nothing is under way", () -> z.run(1));
    }
}
