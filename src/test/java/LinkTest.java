/** Promises 8 to 11, 22 and 23, part 5: instances, what they import and export, names, tables and variables. */
public final class LinkTest {
    private static final int I = Kit.I;
    private static final int L = Kit.L;
    private static final int F = Kit.F;
    private static final int D = Kit.D;

    public static void main(String[] args) {
        numbers();
        namesOfInstances();
        theHost();
        functionsFit();
        tablesFit();
        memoriesFit();
        variablesFit();
        importsComeFirst();
        limits();
        offsets();
        nothingIsChanged();
        writing();
        starting();
        sharing();
        finding();
        exported();
        elements();
        Kit.close();
    }

    private static byte[] imported(String instance, String export, int... what) {
        return Kit.join(Kit.text(instance), Kit.text(export), Kit.bytes(what));
    }

    /** Instantiates a module that must be valid, and looks for a fault. */
    private static void links(String what, StackHost x, int code, int place, byte[] module) {
        int loaded = Kit.load(x, module);
        Kit.same(what + ", load", x.fault(0), 0);
        int made = x.instantiate(loaded);
        Kit.same(what + ", fault", x.fault(0), code);
        Kit.same(what + ", place", x.fault(1), place);
        Kit.same(what + ", made", made >= 0 ? 1 : made, code == 0 ? 1 : -1);
    }

    private static void numbers() {
        StackHost x = new StackHost();
        Kit.load(x, Kit.module());
        for (int k = 0; k < 24; k++) {
            Kit.same("instantiate", x.instantiate(0), k);
        }
        Kit.same("the 25th", x.instantiate(0), -1);
        Kit.same("fault(0)", x.fault(0), 44);
        Kit.same("fault(1)", x.fault(1), 0);
        Kit.outside("instantiate(1)", () -> x.instantiate(1));
        Kit.outside("instantiate(-1)", () -> x.instantiate(-1));
        // What is imported is looked up before that.
        links("an import of the 25th", x, 41, 0, Kit.module(Kit.sectionOf(2, imported("a", "b", 2, 0, 0))));
    }

    private static byte[] constantly(int number) {
        return Kit.module(Kit.section(6, 1, I, 0, Kit.i32(number), 11), Kit.sectionOf(7, Kit.export("v", 3, 0)));
    }

    private static long seen(StackHost x, String name) {
        return x.variable(Kit.instance(x, Kit.module(Kit.sectionOf(2, imported(name, "v", 3, I, 0)))), 0);
    }

    private static void namesOfInstances() {
        StackHost x = new StackHost();
        byte[] wanting = Kit.module(Kit.sectionOf(2, imported("a", "v", 3, I, 0)));
        links("no name", x, 41, 0, wanting);
        int first = Kit.instance(x, constantly(1));
        int second = Kit.instance(x, constantly(2));
        Kit.same("two", second - first, 1);
        links("still no name", x, 41, 0, wanting);
        Kit.name(x, first, "a");
        Kit.same("a", seen(x, "a"), 1);
        Kit.name(x, second, "a");
        Kit.same("the latest named is meant", seen(x, "a"), 2);
        Kit.name(x, first, "b");
        Kit.same("a second name", seen(x, "b"), 1);
        Kit.same("the other one stays", seen(x, "a"), 2);
        Kit.name(x, first, "a");
        Kit.same("named again", seen(x, "a"), 1);
        links("a longer name", x, 41, 0, Kit.module(Kit.sectionOf(2, imported("aa", "v", 3, I, 0))));
        links("a shorter name", x, 41, 0, Kit.module(Kit.sectionOf(2, imported("", "v", 3, I, 0))));
        x.name(second);
        Kit.same("the empty name", seen(x, ""), 2);
        Kit.outside("name(-1)", () -> x.name(-1));
        Kit.outside("name(99)", () -> x.name(99));
        // A call that throws leaves the tape; one that does not, empties it.
        x.feed(0x63636363, 0, 0, 0, 0);
        x.end(4);
        Kit.outside("name(99)", () -> x.name(99));
        x.name(first);
        Kit.same("cccc", seen(x, "cccc"), 1);
        Kit.illegalArgument("the tape is empty", () -> x.end(1));
        // Any bytes are a name, though no import can have this one.
        x.feed(0xFFFFFFFF, 0, 0, 0, 0);
        x.end(3);
        x.name(first);
    }

    private static void theHost() {
        int[] types = {I, L, F, D};
        String[] names = {"i", "l", "f", "d"};
        for (int a = 0; a < 4; a++) {
            for (int b = 0; b < 4; b++) {
                StackHost x = new StackHost();
                links(names[a] + " with type " + b, x, a == b ? 0 : 43, 0, Kit.module(
                        Kit.sectionOf(1, Kit.type(Kit.of(types[b]))), Kit.sectionOf(2, imported("host", names[a], 0, 0))));
            }
        }
        StackHost x = new StackHost();
        byte[] type = Kit.sectionOf(1, Kit.type(Kit.of(I)), Kit.type(Kit.of(I), I), Kit.type(Kit.of()),
                Kit.type(Kit.of(I, I)));
        links("with a result", x, 43, 0, Kit.module(type, Kit.sectionOf(2, imported("host", "i", 0, 1))));
        links("without a parameter", x, 43, 0, Kit.module(type, Kit.sectionOf(2, imported("host", "i", 0, 2))));
        links("with two parameters", x, 43, 0, Kit.module(type, Kit.sectionOf(2, imported("host", "i", 0, 3))));
        links("no such export", x, 42, 0, Kit.module(type, Kit.sectionOf(2, imported("host", "x", 0, 0))));
        links("no such export", x, 42, 0, Kit.module(type, Kit.sectionOf(2, imported("host", "", 0, 0))));
        links("no such export", x, 42, 0, Kit.module(type, Kit.sectionOf(2, imported("host", "ii", 0, 0))));
        links("a variable", x, 43, 0, Kit.module(Kit.sectionOf(2, imported("host", "i", 3, I, 0))));
        links("a memory", x, 43, 0, Kit.module(Kit.sectionOf(2, imported("host", "d", 2, 0, 0))));
        links("a table", x, 43, 0, Kit.module(Kit.sectionOf(2, imported("host", "f", 1, 112, 0, 0))));
        links("a variable that is not there", x, 42, 0, Kit.module(Kit.sectionOf(2, imported("host", "v", 3, I, 0))));
        links("another name", x, 41, 0, Kit.module(Kit.sectionOf(2, imported("hosT", "v", 3, I, 0))));
        links("a name that begins so", x, 41, 0, Kit.module(Kit.sectionOf(2, imported("hosts", "v", 3, I, 0))));
        int other = Kit.instance(x, constantly(3));
        Kit.name(x, other, "host");
        links("an instance of that name is not meant", x, 42, 0,
                Kit.module(Kit.sectionOf(2, imported("host", "v", 3, I, 0))));
        links("the host's still", x, 0, 0, Kit.module(type, Kit.sectionOf(2, imported("host", "i", 0, 0))));
        // The host's, exported again by an instance.
        int again = Kit.instance(x, Kit.module(type, Kit.sectionOf(2, imported("host", "i", 0, 0)),
                Kit.sectionOf(7, Kit.export("out", 0, 0))));
        Kit.name(x, again, "again");
        links("again", x, 0, 0, Kit.module(type, Kit.sectionOf(2, imported("again", "out", 0, 0))));
        links("again, of another type", x, 43, 0, Kit.module(type, Kit.sectionOf(2, imported("again", "out", 0, 1))));
    }

    private static void functionsFit() {
        StackHost x = new StackHost();
        int made = Kit.instance(x, Kit.module(Kit.sectionOf(1, Kit.type(Kit.of(I, L), F)), 3, 2, 1, 0, 5, 3, 1, 0, 0,
                Kit.sectionOf(7, Kit.export("f", 0, 0), Kit.export("m", 2, 0)), Kit.sectionOf(10, Kit.body(Kit.f32(1)))));
        Kit.name(x, made, "a");
        byte[] types = Kit.sectionOf(1, Kit.type(Kit.of(I)), Kit.type(Kit.of(I, L), F), Kit.type(Kit.of(I, L)),
                Kit.type(Kit.of(I, I), F), Kit.type(Kit.of(I, L), D), Kit.type(Kit.of(I, L, L), F), Kit.type(Kit.of(L, I), F));
        for (int k = 0; k < 7; k++) {
            links("type " + k, x, k == 1 ? 0 : 43, 0, Kit.module(types, Kit.sectionOf(2, imported("a", "f", 0, k))));
        }
        links("no such export", x, 42, 0, Kit.module(types, Kit.sectionOf(2, imported("a", "g", 0, 1))));
        links("another kind", x, 43, 0, Kit.module(types, Kit.sectionOf(2, imported("a", "m", 0, 1))));
        links("another kind", x, 43, 0, Kit.module(types, Kit.sectionOf(2, imported("a", "f", 2, 0, 0))));
    }

    private static void tablesFit() {
        StackHost x = new StackHost();
        int bounded = Kit.instance(x, Kit.module(4, 5, 1, 112, 1, 3, 7, Kit.sectionOf(7, Kit.export("t", 1, 0))));
        Kit.name(x, bounded, "b");
        int unbounded = Kit.instance(x, Kit.module(4, 4, 1, 112, 0, 3, Kit.sectionOf(7, Kit.export("t", 1, 0))));
        Kit.name(x, unbounded, "u");
        int[][] limits = {{0, 0}, {0, 3}, {0, 4}, {1, 0, 7}, {1, 3, 7}, {1, 3, 8}, {1, 3, 6}, {1, 4, 7}};
        int[] dueBounded = {0, 0, 43, 0, 0, 0, 43, 43};
        int[] dueUnbounded = {0, 0, 43, 43, 43, 43, 43, 43};
        for (int k = 0; k < limits.length; k++) {
            byte[] l = Kit.bytes(limits[k]);
            links("bounded, " + k, x, dueBounded[k], 0,
                    Kit.module(Kit.sectionOf(2, Kit.join(imported("b", "t", 1, 112), l))));
            links("unbounded, " + k, x, dueUnbounded[k], 0,
                    Kit.module(Kit.sectionOf(2, Kit.join(imported("u", "t", 1, 112), l))));
        }
        // What counts is the table's own most, also where it was imported without one.
        int between = Kit.instance(x, Kit.module(Kit.sectionOf(2, imported("b", "t", 1, 112, 0, 0)),
                Kit.sectionOf(7, Kit.export("t", 1, 0))));
        Kit.name(x, between, "m");
        links("through another", x, 0, 0, Kit.module(Kit.sectionOf(2, imported("m", "t", 1, 112, 1, 3, 7))));
    }

    private static void memoriesFit() {
        StackHost x = new StackHost();
        byte[] grow = Kit.join(Kit.sectionOf(7, Kit.export("m", 2, 0), Kit.export("g", 0, 0)),
                Kit.sectionOf(10, Kit.body(0x20, 0, 0x40, 0)));
        byte[] head = Kit.join(Kit.sectionOf(1, Kit.type(Kit.of(I), I)), 3, 2, 1, 0);
        int bounded = Kit.instance(x, Kit.module(head, 5, 4, 1, 1, 1, 4, grow));
        Kit.name(x, bounded, "b");
        int unbounded = Kit.instance(x, Kit.module(head, 5, 3, 1, 0, 1, grow));
        Kit.name(x, unbounded, "u");
        int[][] limits = {{0, 0}, {0, 1}, {0, 2}, {1, 1, 4}, {1, 1, 5}, {1, 1, 3}};
        int[] dueBounded = {0, 0, 43, 0, 0, 43};
        int[] dueUnbounded = {0, 0, 43, 43, 43, 43};
        for (int k = 0; k < limits.length; k++) {
            byte[] l = Kit.bytes(limits[k]);
            links("bounded, " + k, x, dueBounded[k], 0, Kit.module(Kit.sectionOf(2, Kit.join(imported("b", "m", 2), l))));
            links("unbounded, " + k, x, dueUnbounded[k], 0,
                    Kit.module(Kit.sectionOf(2, Kit.join(imported("u", "m", 2), l))));
        }
        byte[] two = Kit.module(Kit.sectionOf(2, imported("b", "m", 2, 0, 2)));
        links("two pages wanted", x, 43, 0, two);
        Kit.callOf(x, bounded, 1, 1);
        links("two pages wanted, and there are two now", x, 0, 0, two);
        links("a most is what it was", x, 43, 0, Kit.module(Kit.sectionOf(2, imported("b", "m", 2, 1, 1, 2))));
    }

    private static void variablesFit() {
        for (int kind = 0; kind < 2; kind++) {
            StackHost x = new StackHost();
            int made = Kit.instance(x, Kit.module(Kit.section(6, 1, L, kind, Kit.i64(7), 11),
                    Kit.sectionOf(7, Kit.export("v", 3, 0))));
            Kit.name(x, made, "a");
            links("alike", x, 0, 0, Kit.module(Kit.sectionOf(2, imported("a", "v", 3, L, kind))));
            links("not alike", x, 43, 0, Kit.module(Kit.sectionOf(2, imported("a", "v", 3, L, 1 - kind))));
            links("another type", x, 43, 0, Kit.module(Kit.sectionOf(2, imported("a", "v", 3, D, kind))));
        }
    }

    private static void importsComeFirst() {
        StackHost x = new StackHost();
        int made = Kit.instance(x, constantly(1));
        Kit.name(x, made, "a");
        byte[] right = imported("a", "v", 3, I, 0);
        links("the second", x, 41, 1, Kit.module(Kit.sectionOf(2, right, imported("z", "v", 3, I, 0))));
        links("the third", x, 42, 2, Kit.module(Kit.sectionOf(2, right, right, imported("a", "w", 3, I, 0),
                imported("z", "v", 3, I, 0))));
        links("the first of two", x, 43, 0, Kit.module(Kit.sectionOf(2, imported("a", "v", 3, L, 0),
                imported("z", "v", 3, I, 0))));
        links("41 to 43 come before 44", x, 41, 0, Kit.module(Kit.sectionOf(2, imported("z", "v", 3, I, 0)),
                5, 3, 1, 0, 17));
    }

    private static void limits() {
        StackHost x = new StackHost();
        links("17 pages", x, 44, 0, Kit.module(5, 3, 1, 0, 17));
        links("16 pages", x, 0, 0, Kit.module(5, 3, 1, 0, 16));
        links("one page more", x, 44, 0, Kit.module(5, 3, 1, 0, 1));
        links("no page more", x, 0, 0, Kit.module(5, 3, 1, 0, 0));
        links("65536 pages", x, 44, 0, Kit.module(Kit.section(5, 1, 0, Kit.count(65536))));
        links("16385 elements", x, 44, 0, Kit.module(Kit.section(4, 1, 112, 0, Kit.count(16385))));
        links("as many elements as can be written", x, 44, 0,
                Kit.module(Kit.section(4, 1, 112, 0, Kit.count(0xFFFFFFFFL))));
        links("16380 elements", x, 0, 0, Kit.module(Kit.section(4, 1, 112, 0, Kit.count(16380))));
        links("5 more", x, 44, 0, Kit.module(4, 4, 1, 112, 0, 5));
        links("4 more", x, 0, 0, Kit.module(4, 4, 1, 112, 0, 4));
        links("44 comes before 45", x, 44, 0, Kit.module(4, 4, 1, 112, 0, 1, Kit.section(9, 1, 0, Kit.i32(9), 11, 0)));

        // Functions: 8192 in all, imported ones and the host's not counted.
        StackHost y = new StackHost();
        byte[] thousand = functions(1000);
        Kit.load(y, thousand);
        for (int k = 0; k < 8; k++) {
            Kit.same("1000 more", y.instantiate(0), k);
        }
        Kit.same("1000 more", y.instantiate(0), -1);
        Kit.same("fault(0)", y.fault(0), 44);
        links("193 more", y, 44, 0, functions(193));
        links("192 more", y, 0, 0, functions(192));
        Kit.name(y, 0, "a");
        links("imported ones", y, 0, 0, Kit.module(Kit.sectionOf(1, Kit.type(Kit.of()), Kit.type(Kit.of(I))),
                Kit.sectionOf(2, imported("a", "f", 0, 0), imported("host", "i", 0, 1))));
        links("one more", y, 44, 0, functions(1));

        // Variables: 4096 in all.
        StackHost z = new StackHost();
        Kit.load(z, variables(1000));
        for (int k = 0; k < 4; k++) {
            Kit.same("1000 more", z.instantiate(0), k);
        }
        links("97 more", z, 44, 0, variables(97));
        links("96 more", z, 0, 0, variables(96));
        Kit.name(z, 0, "a");
        links("an imported one", z, 0, 0, Kit.module(Kit.sectionOf(2, imported("a", "v", 3, I, 0))));
        links("an imported one, and one more", z, 44, 0, Kit.module(Kit.sectionOf(2, imported("a", "v", 3, I, 0)),
                Kit.section(6, 1, I, 0, Kit.i32(1), 11)));
        Kit.same("the last one", z.variable(4, 95), 95);
    }

    private static byte[] functions(int n) {
        byte[][] numbers = new byte[n][];
        byte[][] bodies = new byte[n][];
        for (int k = 0; k < n; k++) {
            numbers[k] = Kit.bytes(0);
            bodies[k] = Kit.body();
        }
        return Kit.module(Kit.sectionOf(1, Kit.type(Kit.of())), Kit.sectionOf(3, numbers),
                Kit.sectionOf(7, Kit.export("f", 0, 0)), Kit.sectionOf(10, bodies));
    }

    private static byte[] variables(int n) {
        byte[][] all = new byte[n][];
        for (int k = 0; k < n; k++) {
            all[k] = Kit.join(I, 0, Kit.i32(k), 11);
        }
        return Kit.module(Kit.sectionOf(6, all), Kit.sectionOf(7, Kit.export("v", 3, 0)));
    }

    private static byte[] elementRow(byte[] offset, int... functions) {
        return Kit.join(0, offset, 11, Kit.sized(Kit.bytes(functions)));
    }

    private static byte[] dataRow(byte[] offset, int... bytes) {
        return Kit.join(0, offset, 11, Kit.sized(Kit.bytes(bytes)));
    }

    private static byte[] withRows(byte[] elements, byte[] data) {
        return Kit.module(Kit.sectionOf(1, Kit.type(Kit.of())), 3, 2, 1, 0, 4, 4, 1, 112, 0, 5, 5, 3, 1, 0, 1, elements,
                Kit.sectionOf(10, Kit.body()), data);
    }

    private static void offsets() {
        StackHost x = new StackHost();
        byte[] none = Kit.bytes();
        links("up to the end", x, 0, 0, withRows(Kit.sectionOf(9, elementRow(Kit.i32(3), 0, 0)), none));
        links("beyond the end", x, 45, 0, withRows(Kit.sectionOf(9, elementRow(Kit.i32(4), 0, 0)), none));
        links("nothing at the end", x, 0, 0, withRows(Kit.sectionOf(9, elementRow(Kit.i32(5))), none));
        links("nothing beyond the end", x, 45, 0, withRows(Kit.sectionOf(9, elementRow(Kit.i32(6))), none));
        links("an offset without a sign", x, 45, 1,
                withRows(Kit.sectionOf(9, elementRow(Kit.i32(0)), elementRow(Kit.i32(-1), 0)), none));
        links("data up to the end", x, 0, 0, withRows(none, Kit.sectionOf(11, dataRow(Kit.i32(65534), 1, 2))));
        links("data beyond the end", x, 46, 0, withRows(none, Kit.sectionOf(11, dataRow(Kit.i32(65535), 1, 2))));
        links("no data at the end", x, 0, 0, withRows(none, Kit.sectionOf(11, dataRow(Kit.i32(65536)))));
        links("no data beyond the end", x, 46, 2, withRows(none, Kit.sectionOf(11, dataRow(Kit.i32(0)),
                dataRow(Kit.i32(1), 5), dataRow(Kit.i32(65537)))));
        links("data without a sign", x, 46, 0, withRows(none, Kit.sectionOf(11, dataRow(Kit.i32(-1), 1))));
        links("45 comes before 46", x, 45, 1, withRows(Kit.sectionOf(9, elementRow(Kit.i32(0), 0),
                elementRow(Kit.i32(9), 0)), Kit.sectionOf(11, dataRow(Kit.i32(-1), 1))));
        int made = Kit.instance(x, constantly(4));
        Kit.name(x, made, "a");
        byte[] module = Kit.module(Kit.sectionOf(2, imported("a", "v", 3, I, 0)), 5, 3, 1, 0, 1,
                Kit.sectionOf(11, dataRow(Kit.bytes(0x23, 0), 9)));
        int placed = Kit.instance(x, module);
        Kit.same("an offset from a variable", x.peek(placed, 4), 9);
    }

    private static void nothingIsChanged() {
        StackHost x = new StackHost();
        int made = Kit.instance(x, Kit.module(4, 4, 1, 112, 0, 5, 5, 3, 1, 0, 1,
                Kit.sectionOf(7, Kit.export("t", 1, 0), Kit.export("m", 2, 0))));
        Kit.name(x, made, "a");
        byte[] imports = Kit.sectionOf(2, imported("a", "t", 1, 112, 0, 0), imported("a", "m", 2, 0, 0));
        byte[] head = Kit.join(Kit.sectionOf(1, Kit.type(Kit.of())), imports, 3, 2, 1, 0);
        links("the data is at fault", x, 46, 1, Kit.module(head, Kit.sectionOf(9, elementRow(Kit.i32(0), 0)),
                Kit.sectionOf(10, Kit.body()), Kit.sectionOf(11, dataRow(Kit.i32(0), 7), dataRow(Kit.i32(65536), 7))));
        Kit.same("no element", x.element(made, 0), -1);
        Kit.same("no byte", x.peek(made, 0), 0);
        Kit.outside("no instance", () -> x.pages(1));
        links("again, with no fault", x, 0, 0, Kit.module(head, Kit.sectionOf(9, elementRow(Kit.i32(0), 0)),
                Kit.sectionOf(10, Kit.body()), Kit.sectionOf(11, dataRow(Kit.i32(0), 7), dataRow(Kit.i32(65535), 8))));
        Kit.same("an element", x.element(made, 0), 65536);
        Kit.same("a byte", x.peek(made, 0), 7);
        Kit.same("a byte", x.peek(made, 65535), 8);
        Kit.same("pages", x.pages(1), 1);
        // What was refused takes no room: 15 pages are left, and 8191 functions.
        links("15 pages", x, 0, 0, Kit.module(5, 3, 1, 0, 15));
        Kit.same("instantiate", Kit.instance(x, functions(4096)), 3);
        links("4096 more", x, 44, 0, functions(4096));
        links("4095 more", x, 0, 0, functions(4095));
    }

    private static void writing() {
        StackHost x = new StackHost();
        int made = Kit.instance(x, withRows(Kit.sectionOf(9, elementRow(Kit.i32(0), 0, 0, 0), elementRow(Kit.i32(4), 0)),
                Kit.sectionOf(11, dataRow(Kit.i32(2), 1, 2, 3, 255), dataRow(Kit.i32(3), 9, 8))));
        int[] bytes = {0, 0, 1, 9, 8, 255, 0};
        for (int k = 0; k < bytes.length; k++) {
            Kit.same("peek(" + k + ")", x.peek(made, k), bytes[k]);
        }
        int[] elements = {0, 0, 0, -1, 0};
        for (int k = 0; k < elements.length; k++) {
            Kit.same("element(" + k + ")", x.element(made, k), elements[k]);
        }
    }

    private static void starting() {
        StackHost x = new StackHost();
        byte[] module = Kit.module(Kit.sectionOf(1, Kit.type(Kit.of())), 3, 2, 1, 0,
                Kit.section(6, 1, I, 1, Kit.i32(1), 11), Kit.sectionOf(7, Kit.export("f", 0, 0)), 8, 1, 0,
                Kit.sectionOf(10, Kit.body(0x23, 0, Kit.i32(2), 0x6A, 0x24, 0)));
        Kit.load(x, module);
        Kit.same("push", x.push(11), 1);
        Kit.same("instantiate", x.instantiate(0), 0);
        Kit.same("fault(0)", x.fault(0), 0);
        Kit.same("it has not run", x.variable(0, 0), 1);
        Kit.same("calls", x.calls(), 0);
        Kit.illegalState("it is under way", () -> x.instantiate(0));
        Kit.same("run", x.run(3), 2);
        Kit.same("calls", x.calls(), 1);
        Kit.same("run", x.run(1), 0);
        Kit.same("it has run", x.variable(0, 0), 3);
        Kit.same("what was pushed stays", x.push(12), 2);
        Kit.same("instantiate", x.instantiate(0), 1);
        Kit.same("stop", x.stop(), 0);
        Kit.same("it is an instance all the same", x.variable(1, 0), 1);
        Kit.same("load while nothing is under way", Kit.load(x, Kit.module()), 1);
        Kit.same("instantiate", x.instantiate(0), 2);
        Kit.same("load while a function is under way", Kit.load(x, Kit.module()), 2);
        Kit.same("run", x.run(100), 0);
        // One that traps; one that is imported.
        StackHost y = new StackHost();
        int trapping = Kit.instance(y, Kit.module(Kit.sectionOf(1, Kit.type(Kit.of())), 3, 2, 1, 0,
                Kit.sectionOf(7, Kit.export("f", 0, 0)), 8, 1, 0, Kit.sectionOf(10, Kit.body(0))));
        Kit.same("run", y.run(1), 1);
        Kit.same("trap(0)", y.trap(0), 1);
        Kit.name(y, trapping, "a");
        int importing = Kit.instance(y, Kit.module(Kit.sectionOf(1, Kit.type(Kit.of())),
                Kit.sectionOf(2, imported("a", "f", 0, 0)), 8, 1, 0));
        Kit.same("two", importing, 1);
        Kit.same("run", y.run(1), 1);
        Kit.same("trap(1)", y.trap(1), 0);
    }

    private static void sharing() {
        StackHost x = new StackHost();
        byte[] owner = Kit.module(Kit.sectionOf(1, Kit.type(Kit.of(), I)), 3, 2, 1, 0, 4, 4, 1, 112, 0, 2, 5, 3, 1, 0, 1,
                Kit.section(6, 2, I, 1, Kit.i32(5), 11, I, 0, Kit.i32(6), 11),
                Kit.sectionOf(7, Kit.export("f", 0, 0), Kit.export("t", 1, 0), Kit.export("m", 2, 0), Kit.export("v", 3, 0),
                        Kit.export("w", 3, 1)),
                Kit.sectionOf(10, Kit.body(0x23, 0)));
        int first = Kit.instance(x, owner);
        Kit.name(x, first, "o");
        byte[] user = Kit.module(Kit.sectionOf(1, Kit.type(Kit.of(), I)),
                Kit.sectionOf(2, imported("o", "v", 3, I, 1), imported("o", "f", 0, 0), imported("o", "t", 1, 112, 0, 0),
                        imported("o", "m", 2, 0, 0), imported("o", "w", 3, I, 0)),
                3, 2, 1, 0, Kit.section(6, 2, I, 0, 0x23, 1, 11, L, 1, Kit.i64(8), 11),
                Kit.sectionOf(7, Kit.export("g", 0, 1), Kit.export("f", 0, 0), Kit.export("v", 3, 0)),
                Kit.section(9, 1, 0, Kit.i32(0), 11, 2, 1, 0),
                Kit.sectionOf(10, Kit.body(Kit.i32(9), 0x24, 0, Kit.i32(77), Kit.i32(78), 0x36, 0, 0, 0x10, 0)));
        // 0x23 1 is the second imported variable, which is fixed.
        int second = Kit.instance(x, user);
        Kit.same("an own variable from an imported one", x.variable(second, 2), 6);
        Kit.same("an own one", x.variable(second, 3), 8);
        Kit.same("run", Kit.callOf(x, second, 0), 0);
        Kit.same("the owner's function sees the variable", x.result(), 9);
        Kit.same("the owner's variable", x.variable(first, 0), 9);
        Kit.same("the user's variable", x.variable(second, 0), 9);
        Kit.same("the owner's memory", x.peek(first, 77), 78);
        x.poke(first, 78, 3);
        Kit.same("the user's memory", x.peek(second, 78), 3);
        Kit.same("the table has the user's function", x.element(first, 0), 65536 + 1);
        Kit.same("and the owner's", x.element(second, 1), 0);
        // Two instances of one module share nothing of their own.
        int third = x.instantiate(0);
        Kit.same("a new variable", x.variable(third, 0), 5);
        Kit.same("a new memory", x.peek(third, 77), 0);
        Kit.same("a new table", x.element(third, 0), -1);
        // Through a third one.
        Kit.name(x, second, "u");
        int last = Kit.instance(x, Kit.module(Kit.sectionOf(1, Kit.type(Kit.of(), I)),
                Kit.sectionOf(2, imported("u", "f", 0, 0), imported("u", "v", 3, I, 1)),
                Kit.sectionOf(7, Kit.export("f", 0, 0))));
        Kit.same("run", Kit.callOf(x, last, 0), 0);
        Kit.same("a function through two", x.result(), 9);
        Kit.same("a variable through two", x.variable(last, 0), 9);
    }

    private static void finding() {
        StackHost x = new StackHost();
        int made = Kit.instance(x, Kit.module(5, 3, 1, 0, 0, Kit.sectionOf(7, Kit.export("", 2, 0), Kit.export("ab", 2, 0),
                Kit.export("a", 2, 0), Kit.export("b\u00c3\u00a4", 2, 0))));
        Kit.same("the empty one", x.find(made), 0);
        Kit.same("ab", Kit.find(x, made, "ab"), 1);
        Kit.same("a", Kit.find(x, made, "a"), 2);
        Kit.same("b and two bytes", Kit.find(x, made, "b\u00c3\u00a4"), 3);
        Kit.same("b", Kit.find(x, made, "b"), -1);
        Kit.same("abc", Kit.find(x, made, "abc"), -1);
        Kit.same("bytes that are no name", Kit.find(x, made, "\u00ff"), -1);
        Kit.same("the tape is empty", x.find(made), 0);
        Kit.feed(x, Kit.bytes('a', 'b'));
        Kit.outside("find(1)", () -> x.find(1));
        Kit.outside("find(-1)", () -> x.find(-1));
        Kit.same("the tape is as it was", x.find(made), 1);
    }

    private static void exported() {
        StackHost x = new StackHost();
        int made = Kit.instance(x, Kit.module(Kit.sectionOf(1, Kit.type(Kit.of(I)), Kit.type(Kit.of(I, L, F), D)),
                Kit.sectionOf(2, imported("host", "i", 0, 0)), 3, 2, 1, 1, 4, 4, 1, 112, 0, 0, 5, 3, 1, 0, 0,
                Kit.section(6, 2, I, 0, Kit.i32(1), 11, I, 0, Kit.i32(1), 11),
                Kit.sectionOf(7, Kit.export("a", 0, 1), Kit.export("b", 1, 0), Kit.export("c", 2, 0), Kit.export("d", 3, 1),
                        Kit.export("e", 0, 0)),
                Kit.sectionOf(10, Kit.body(Kit.f64(1)))));
        int[][] due = {{0, 1, 3, 1}, {1, 0, 0, 0}, {2, 0, 0, 0}, {3, 1, 0, 0}, {0, 0, 1, 0}};
        for (int k = 0; k < due.length; k++) {
            for (int what = 0; what < 4; what++) {
                Kit.same("exported(0, " + k + ", " + what + ")", x.exported(made, k, what), due[k][what]);
            }
        }
        Kit.outside("no such what", () -> x.exported(made, 0, 4));
        Kit.outside("no such what", () -> x.exported(made, 1, -1));
        Kit.outside("no such export", () -> x.exported(made, 5, 0));
        Kit.outside("no such export", () -> x.exported(made, -1, 0));
        Kit.outside("no such instance", () -> x.exported(1, 0, 0));
        Kit.outside("no such instance", () -> x.exported(-1, 0, 0));
        // What it has imported has its number in the instance that is asked.
        Kit.name(x, made, "a");
        int other = Kit.instance(x, Kit.module(Kit.sectionOf(1, Kit.type(Kit.of(I, L, F), D)),
                Kit.sectionOf(2, imported("a", "d", 3, I, 0), imported("a", "a", 0, 0)),
                Kit.sectionOf(7, Kit.export("x", 0, 0), Kit.export("y", 3, 0))));
        Kit.same("number of x", x.exported(other, 0, 1), 0);
        Kit.same("number of y", x.exported(other, 1, 1), 0);
        Kit.same("parameters of x", x.exported(other, 0, 2), 3);
    }

    private static void elements() {
        StackHost x = new StackHost();
        Kit.instance(x, Kit.module());
        int made = Kit.instance(x, Kit.module(
                Kit.sectionOf(1, Kit.type(Kit.of(I)), Kit.type(Kit.of(L)), Kit.type(Kit.of(F)), Kit.type(Kit.of(D))),
                Kit.sectionOf(2, imported("host", "d", 0, 3), imported("host", "f", 0, 2), imported("host", "l", 0, 1),
                        imported("host", "i", 0, 0)),
                Kit.section(3, 2, 0, 1), Kit.section(4, 1, 112, 0, 8), Kit.sectionOf(7, Kit.export("t", 1, 0)),
                Kit.section(9, 1, 0, Kit.i32(1), 11, 6, 0, 1, 2, 3, 4, 5), Kit.sectionOf(10, Kit.body(), Kit.body())));
        int host = 65536 * 32767;
        int[] due = {-1, host + 3, host + 2, host + 1, host, 65536 + 4, 65536 + 5, -1};
        for (int k = 0; k < due.length; k++) {
            Kit.same("element(" + k + ")", x.element(made, k), due[k]);
        }
        Kit.outside("element(8)", () -> x.element(made, 8));
        Kit.outside("element(-1)", () -> x.element(made, -1));
        Kit.outside("an instance without a table", () -> x.element(0, 0));
        Kit.outside("no instance", () -> x.element(2, 0));
        Kit.outside("no instance", () -> x.element(-1, 0));
        // A function of the host is called by way of a table.
        Kit.name(x, made, "a");
        int caller = Kit.instance(x, Kit.module(Kit.sectionOf(1, Kit.type(Kit.of(I)), Kit.type(Kit.of(L))),
                Kit.sectionOf(2, imported("a", "t", 1, 112, 0, 8)), 3, 2, 1, 0, Kit.sectionOf(7, Kit.export("f", 0, 0)),
                Kit.sectionOf(10, Kit.body(Kit.i64(-5), 0x20, 0, 0x11, 1, 0))));
        Kit.same("run", Kit.callOf(x, caller, 0, 3), 0);
        Kit.same("out(0)", x.out(0), -5);
        Kit.same("run", Kit.callOf(x, caller, 0, 4), 1);
        Kit.same("the host's with another type", x.trap(0), 8);
        Kit.same("run", Kit.callOf(x, caller, 0, 6), 0);
        Kit.same("run", Kit.callOf(x, caller, 0, 5), 1);
        Kit.same("another type", x.trap(0), 8);
        Kit.same("the caller's instance", x.trap(1), caller);
    }
}
