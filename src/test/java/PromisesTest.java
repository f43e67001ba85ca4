import java.util.Arrays;

/** The promises 1 to 27, sentence by sentence. */
public final class PromisesTest {
    private static final int I = Kit.I;
    private static final int L = Kit.L;
    private static final int F = Kit.F;
    private static final int D = Kit.D;
    private static final int DROP = 0x1A;
    private static final byte[] VOID_TYPE = Kit.type(Kit.of());
    private static final byte[] EMPTY = Kit.module();

    public static void main(String[] args) {
        aNewObject();
        feeding();
        feedingTooMuch();
        ending();
        endingWrongly();
        loading();
        loadingTooMany();
        faults();
        faultsOfNothing();
        modules();
        rooms();
        instantiating();
        instantiatingUnderWay();
        naming();
        finding();
        exported();
        pushing();
        invoking();
        invokingWrongly();
        running();
        runningWrongly();
        stopping();
        calls();
        results();
        traps();
        trapsOfNothing();
        pages();
        peeking();
        poking();
        variables();
        elements();
        wrongSteps();
        outs();
        out();
        clearing();
        Kit.close();
    }

    private static byte[] imported(String instance, String export, int... what) {
        return Kit.join(Kit.text(instance), Kit.text(export), Kit.bytes(what));
    }

    private static int instanceOf(StackHost x, byte[] type, Object... code) {
        return Kit.instance(x, Kit.single(type, Kit.body(code)));
    }

    private static void aNewObject() {
        Kit.sentence("`StackHost()`: No modules, no instances, an empty tape; OUT and the arguments are empty.");
        StackHost x = new StackHost();
        Kit.outside("module(0, 0)", () -> x.module(0, 0));
        Kit.outside("room(0, 0)", () -> x.room(0, 0));
        Kit.outside("instantiate(0)", () -> x.instantiate(0));
        Kit.outside("pages(0)", () -> x.pages(0));
        Kit.outside("find(0)", () -> x.find(0));
        Kit.outside("name(0)", () -> x.name(0));
        Kit.outside("peek(0, 0)", () -> x.peek(0, 0));
        Kit.outside("poke(0, 0, 0)", () -> x.poke(0, 0, 0));
        Kit.outside("variable(0, 0)", () -> x.variable(0, 0));
        Kit.outside("element(0, 0)", () -> x.element(0, 0));
        Kit.outside("exported(0, 0, 0)", () -> x.exported(0, 0, 0));
        Kit.outside("invoke(0, 0)", () -> x.invoke(0, 0));
        Kit.illegalArgument("end(1)", () -> x.end(1));
        Kit.same("outs()", x.outs(), 0);
        Kit.outside("out(0)", () -> x.out(0));
        Kit.same("clear()", x.clear(), 0);
        Kit.same("calls()", x.calls(), 0);
        Kit.same("stop()", x.stop(), 0);
        Kit.same("wrong()", x.wrong(), 0);
        Kit.illegalState("run(0)", () -> x.run(0));
        Kit.same("push(7)", x.push(7), 1);
        // Another object has nothing of this one.
        StackHost y = new StackHost();
        Kit.load(y, EMPTY);
        Kit.same("push(7)", y.push(7), 1);
        Kit.outside("module(0, 0) of the first", () -> x.module(0, 0));
    }

    private static void feeding() {
        Kit.sentence("Twenty bytes more of the tape, the highest of each number first: how many it has.");
        StackHost x = new StackHost();
        // The header of a module, then sections of any bytes, each of a name of one byte.
        Kit.same("feed", x.feed(0x0061736D, 0x01000000, 0x00020141, 0x00020142, 0xFFFFFFFF), 20);
        x.end(16);
        Kit.same("feed", x.feed(0x00020143, 0, 0, 0, 0), 36);
        x.end(20);
        Kit.same("load()", x.load(), 0);
        // Twenty bytes that are all different: a fault tells each of them by its place.
        Kit.same("feed", x.feed(0x0061736D, 0x01000000, 0x000A0901, 0x02030405, 0x06070880), 20);
        x.end(19);
        Kit.same("load()", x.load(), -1);
        Kit.same("fault(0)", x.fault(0), 2);
        x.feed(0x0061736D, 0x01000000, 0x80818283, 0, 0);
        x.end(9);
        Kit.same("load()", x.load(), -1);
        Kit.same("a byte has no sign: fault(0)", x.fault(0), 5);
        Kit.same("fault(1)", x.fault(1), 8);
        for (int k = 1; k <= 100; k++) {
            Kit.same("feed", x.feed(k, k, k, k, k), 20 * k);
        }
        // A name of twenty bytes: they come in the order in which they were fed.
        StackHost y = new StackHost();
        int made = Kit.instance(y, Kit.module(5, 3, 1, 0, 0, Kit.sectionOf(7, Kit.export("abcdefghijklmnopqrst", 2,
                0))));
        y.feed(0x61626364, 0x65666768, 0x696A6B6C, 0x6D6E6F70, 0x71727374);
        Kit.same("find", y.find(made), 0);
    }

    private static void feedingTooMuch() {
        Kit.sentence("IllegalStateException: they would be more than 65536.");
        StackHost x = new StackHost();
        int had = 0;
        for (int k = 0; k < 3276; k++) {
            had = x.feed(k, k, k, k, k);
        }
        Kit.same("feed", had, 65520);
        Kit.illegalState("feed", () -> x.feed(0, 0, 0, 0, 0));
        x.end(65517);
        Kit.illegalState("feed", () -> x.feed(0, 0, 0, 0, 0));
        Kit.illegalArgument("nothing was fed", () -> x.end(65518));
        x.end(65516);
        Kit.same("feed", x.feed(0, 0, 0, 0, 0), 65536);
        Kit.illegalState("feed", () -> x.feed(0, 0, 0, 0, 0));
        x.end(65536);
    }

    private static void ending() {
        Kit.sentence("The tape keeps its first n bytes.");
        StackHost x = new StackHost();
        Kit.feed(x, EMPTY);
        Kit.same("feed", x.feed(-1, -1, -1, -1, -1), 28);
        x.end(28);
        x.end(8);
        Kit.same("load()", x.load(), 0);
        x.feed(1, 2, 3, 4, 5);
        x.end(20);
        Kit.same("feed", x.feed(1, 2, 3, 4, 5), 40);
        x.end(7);
        x.end(7);
        Kit.same("feed", x.feed(1, 2, 3, 4, 5), 27);
        x.end(0);
        Kit.same("feed", x.feed(1, 2, 3, 4, 5), 20);
    }

    private static void endingWrongly() {
        Kit.sentence("IllegalArgumentException: n is below 0, or it has not so many.");
        StackHost x = new StackHost();
        x.end(0);
        Kit.illegalArgument("end(1)", () -> x.end(1));
        x.feed(1, 2, 3, 4, 5);
        Kit.illegalArgument("end(-1)", () -> x.end(-1));
        Kit.illegalArgument("end(least)", () -> x.end(Integer.MIN_VALUE));
        Kit.illegalArgument("end(21)", () -> x.end(21));
        Kit.illegalArgument("end(greatest)", () -> x.end(Integer.MAX_VALUE));
        x.end(7);
        Kit.illegalArgument("end(8)", () -> x.end(8));
        Kit.same("feed", x.feed(1, 2, 3, 4, 5), 27);
    }

    private static void loading() {
        Kit.sentence("The tape is read as a module: its number; or NONE, when it has a fault (it is empty then, too).");
        StackHost x = new StackHost();
        Kit.same("load", Kit.load(x, EMPTY), 0);
        Kit.same("the tape is empty", x.feed(0, 0, 0, 0, 0), 20);
        x.end(0);
        Kit.same("NONE", Kit.load(x, Kit.module(12)), StackHost.NONE);
        Kit.same("the tape is empty, too", x.feed(0, 0, 0, 0, 0), 20);
        x.end(0);
        Kit.same("NONE is", StackHost.NONE, -1);
        Kit.same("a fault of valid modules", Kit.load(x, Kit.module(7, 4, 1, 0, 0, 0)), -1);
        Kit.same("the tape is empty, too", x.feed(0, 0, 0, 0, 0), 20);
        x.end(0);
        Kit.same("one at fault takes no number", Kit.load(x, EMPTY), 1);
        Kit.same("an empty tape", x.load(), -1);
        Kit.same("the next number", Kit.load(x, EMPTY), 2);
    }

    private static void loadingTooMany() {
        Kit.sentence("IllegalStateException: there are 64.");
        StackHost x = new StackHost();
        for (int k = 0; k < 64; k++) {
            Kit.same("load", Kit.load(x, EMPTY), k);
            if (k < 63) {
                Kit.same("one at fault is not counted", Kit.load(x, Kit.bytes(1)), -1);
            }
        }
        Kit.feed(x, EMPTY);
        Kit.illegalState("load of the 65th", x::load);
        Kit.same("the tape is as it was", x.feed(0, 0, 0, 0, 0), 28);
        Kit.same("nor is the fault another", x.fault(0), 0);
        x.end(0);
        Kit.illegalState("load of what would be at fault", x::load);
        Kit.same("the last is there", x.module(63, 0), 0);
        Kit.outside("no more are", () -> x.module(64, 0));
    }

    private static void faults() {
        Kit.sentence("Of the latest load() or instantiate(): what = 0 the code of its fault, 1 the fault's place; 0 "
                + "and 0 if it had none, or there was none.");
        StackHost x = new StackHost();
        Kit.same("fault(0) when there was none", x.fault(0), 0);
        Kit.same("fault(1) when there was none", x.fault(1), 0);
        Kit.load(x, Kit.module(12));
        Kit.same("fault(0)", x.fault(0), 5);
        Kit.same("fault(1)", x.fault(1), 8);
        Kit.load(x, EMPTY);
        Kit.same("fault(0) when it had none", x.fault(0), 0);
        Kit.same("fault(1) when it had none", x.fault(1), 0);
        Kit.load(x, Kit.module(Kit.sectionOf(2, imported("host", "i", 3, I, 0))));
        x.instantiate(1);
        Kit.same("fault(0) of instantiate", x.fault(0), 43);
        Kit.same("fault(1) of instantiate", x.fault(1), 0);
        x.instantiate(0);
        Kit.same("fault(0) of one without", x.fault(0), 0);
        Kit.load(x, Kit.module(12));
        x.instantiate(0);
        Kit.same("the latest had none", x.fault(0), 0);
        Kit.same("the latest had none", x.fault(1), 0);
        x.instantiate(1);
        Kit.load(x, EMPTY);
        Kit.same("the latest had none", x.fault(0), 0);
        Kit.load(x, Kit.module(12));
        Kit.outside("instantiate of none", () -> x.instantiate(9));
        Kit.same("one that throws is none", x.fault(0), 5);
        x.pages(0);
        x.name(0);
        x.find(0);
        Kit.same("other calls change nothing", x.fault(1), 8);
    }

    private static void faultsOfNothing() {
        Kit.sentence("IndexOutOfBoundsException: there is no such what.");
        StackHost x = new StackHost();
        for (int what : new int[] {-1, 2, 3, Integer.MIN_VALUE, Integer.MAX_VALUE}) {
            Kit.outside("fault(" + what + ")", () -> x.fault(what));
        }
        for (int what : new int[] {-1, 4, 5, Integer.MIN_VALUE, Integer.MAX_VALUE}) {
            Kit.outside("trap(" + what + ")", () -> x.trap(what));
        }
    }

    private static void modules() {
        Kit.sentence("How many of something a module has (0 function types, 1 imports, 2 functions, 3 tables, 4 "
                + "memories, 5 variables, with those imported, 6 exports, 7 rows of elements, 8 rows of data).");
        StackHost x = new StackHost();
        Kit.load(x, Kit.module( Kit.sectionOf(1, VOID_TYPE, Kit.type(Kit.of(I), I)),
                Kit.sectionOf(2, imported("", "", 0, 0), imported("", "", 0, 1), imported("", "", 2, 0, 0),
                imported("", "", 3, I, 0), imported("", "", 3, L, 1)), Kit.section(3, 3, 0, 1, 0),
                Kit.section(4, 1, 112, 0, 5), Kit.section(6, 1, I, 1, Kit.i32(3), 11),
                Kit.section(7, 2, Kit.export("a", 0, 4), Kit.export("b", 3, 2)),
                Kit.section(9, 4, Kit.bytes(0, 0x41, 0, 11, 1, 0), Kit.bytes(0, 0x41, 0, 11, 0),
                Kit.bytes(0, 0x41, 0, 11, 0), Kit.bytes(0, 0x41, 0, 11, 0)), Kit.section(10, 3, Kit.body(),
                Kit.body(Kit.i32(1), Kit.i32(1), 0x6A), Kit.body(Kit.i32(0), DROP)),
                Kit.section(11, 2, Kit.bytes(0, 0x41, 0, 11, 0), Kit.bytes(0, 0x41, 0, 11, 1, 9))));
        Kit.same("fault(0)", x.fault(0), 0);
        int[] due = {2, 5, 5, 1, 1, 3, 2, 4, 2};
        for (int what = 0; what < due.length; what++) {
            Kit.same("module(0, " + what + ")", x.module(0, what), due[what]);
        }
        Kit.load(x, EMPTY);
        for (int what = 0; what < due.length; what++) {
            Kit.same("module(1, " + what + ")", x.module(1, what), 0);
        }
        Kit.load(x, Kit.module(Kit.sectionOf(2, imported("", "", 1, 112, 0, 0)), Kit.section(5, 1, 0, 0)));
        Kit.same("an imported table", x.module(2, 3), 1);
        Kit.same("a memory of its own", x.module(2, 4), 1);
        Kit.sentence("IndexOutOfBoundsException: also when what is none of these.");
        for (int what : new int[] {-1, 9, 10, Integer.MIN_VALUE, Integer.MAX_VALUE}) {
            Kit.outside("module(0, " + what + ")", () -> x.module(0, what));
        }
        Kit.outside("module(3, 0)", () -> x.module(3, 0));
        Kit.outside("module(-1, 0)", () -> x.module(-1, 0));
    }

    private static void rooms() {
        Kit.sentence("The ROOM of body b of a module. IndexOutOfBoundsException: also when there is no such body.");
        StackHost x = new StackHost();
        // An imported function has no body: body 0 is the first of its own.
        Kit.load(x, Kit.module(Kit.sectionOf(1, VOID_TYPE), Kit.sectionOf(2, imported("", "", 0, 0)),
                Kit.section(3, 3, 0, 0, 0), Kit.section(10, 3, Kit.body(), Kit.body(Kit.i32(1), Kit.i32(1), DROP, DROP),
                Kit.body(Kit.i32(0), DROP))));
        int[] due = {0, 2, 1};
        for (int b = 0; b < 3; b++) {
            Kit.same("room(0, " + b + ")", x.room(0, b), due[b]);
        }
        Kit.outside("room(0, 3)", () -> x.room(0, 3));
        Kit.outside("room(0, -1)", () -> x.room(0, -1));
        Kit.outside("room(1, 0)", () -> x.room(1, 0));
        Kit.outside("room(-1, 0)", () -> x.room(-1, 0));
        Kit.load(x, EMPTY);
        Kit.outside("a module without bodies", () -> x.room(1, 0));
    }

    private static void instantiating() {
        Kit.sentence("A module becomes an instance: its number; or NONE, with a fault.");
        StackHost x = new StackHost();
        Kit.load(x, EMPTY);
        Kit.load(x, Kit.module(5, 3, 1, 0, 17));
        Kit.same("instantiate(0)", x.instantiate(0), 0);
        Kit.same("instantiate(1)", x.instantiate(1), StackHost.NONE);
        Kit.same("fault(0)", x.fault(0), 44);
        Kit.same("one with a fault takes no number", x.instantiate(0), 1);
        Kit.same("fault(0)", x.fault(0), 0);
        Kit.outside("instantiate(2)", () -> x.instantiate(2));
        Kit.outside("instantiate(-1)", () -> x.instantiate(-1));
    }

    private static void instantiatingUnderWay() {
        Kit.sentence("IndexOutOfBoundsException; IllegalStateException: a function is under way.");
        StackHost x = new StackHost();
        int made = instanceOf(x, VOID_TYPE, 0);
        x.invoke(made, 0);
        Kit.illegalState("before its first run", () -> x.instantiate(0));
        x.run(0);
        Kit.illegalState("when it is held", () -> x.instantiate(0));
        Kit.outside("of no module", () -> x.instantiate(1));
        x.stop();
        Kit.same("when it is stopped", x.instantiate(0), 1);
        Kit.callOf(x, made, 0);
        Kit.same("when it has ended with a trap", x.instantiate(0), 2);
        int ending = instanceOf(x, VOID_TYPE);
        Kit.callOf(x, ending, 0);
        Kit.same("when it has ended", x.instantiate(0), 4);
        x.invoke(made, 0);
        Kit.same("load does not mind", Kit.load(x, EMPTY), 2);
    }

    private static void naming() {
        Kit.sentence("The tape (any bytes; it is empty then) is a name more of an instance.");
        StackHost x = new StackHost();
        int made = Kit.instance(x, Kit.module(5, 3, 1, 0, 0, Kit.sectionOf(7, Kit.export("m", 2, 0))));
        x.feed(0x63636363, 0, 0, 0, 0);
        x.end(4);
        Kit.outside("name(1)", () -> x.name(1));
        Kit.outside("name(-1)", () -> x.name(-1));
        x.name(made);
        Kit.illegalArgument("the tape is empty", () -> x.end(1));
        Kit.load(x, Kit.module(Kit.sectionOf(2, imported("cccc", "m", 2, 0, 0))));
        Kit.same("it is its name", x.instantiate(1), 1);
        // Any bytes are a name, though no import can have this one; nor does it hide another.
        x.feed(0xFFFFFFFF, 0xFE800000, 0, 0, 0);
        x.name(made);
        Kit.illegalArgument("the tape is empty", () -> x.end(1));
        x.name(made);
        Kit.load(x, Kit.module(Kit.sectionOf(2, imported("", "m", 2, 0, 0))));
        Kit.same("an empty tape is a name, too", x.instantiate(2), 2);
        Kit.same("a name more: the first one stays", x.instantiate(1), 3);
        Kit.feed(x, new byte[3000]);
        x.name(made);
        Kit.same("and behind a long one, too", x.instantiate(1), 4);
        // A name of bytes that a module can write, but longer than any feed.
        String many = "n".repeat(3000);
        Kit.name(x, made, many);
        Kit.load(x, Kit.module(Kit.sectionOf(2, imported(many, "m", 2, 0, 0))));
        Kit.same("a long name", x.instantiate(3), 5);
    }

    private static void finding() {
        Kit.sentence("The number of the export of an instance whose name is the tape (which is empty then); NONE.");
        StackHost x = new StackHost();
        int made = Kit.instance(x, Kit.module(5, 3, 1, 0, 0, Kit.sectionOf(7, Kit.export("", 2, 0),
                Kit.export("ab", 2, 0), Kit.export("a", 2, 0), Kit.export("b\u00c3\u00a4", 2, 0))));
        Kit.same("the empty one", x.find(made), 0);
        Kit.same("ab", Kit.find(x, made, "ab"), 1);
        Kit.same("a", Kit.find(x, made, "a"), 2);
        Kit.same("b and two bytes", Kit.find(x, made, "b\u00c3\u00a4"), 3);
        for (String none : new String[] {"b", "abc", "B", "\u00ff", "b\u00c3\u00a5", "\u0000"}) {
            Kit.same("none", Kit.find(x, made, none), StackHost.NONE);
            Kit.illegalArgument("the tape is empty", () -> x.end(1));
        }
        Kit.feed(x, Kit.bytes('a', 'b'));
        Kit.outside("find(1)", () -> x.find(1));
        Kit.outside("find(-1)", () -> x.find(-1));
        Kit.same("the tape is as it was", x.find(made), 1);
        int none = Kit.instance(x, EMPTY);
        Kit.same("an instance without exports", x.find(none), -1);
        int other = Kit.instance(x, Kit.module(5, 3, 1, 0, 0, Kit.sectionOf(7, Kit.export("ab", 2, 0))));
        Kit.same("each instance has its own", Kit.find(x, other, "ab"), 0);
    }

    private static void exported() {
        Kit.sentence("Of export k of an instance: what = 0 its kind, 1 its number in that instance (imported ones "
                + "first, also of what it has imported); of a function 2 how many parameters, 3 how many results; of "
                + "others 0.");
        StackHost x = new StackHost();
        int made = Kit.instance(x, Kit.module(Kit.sectionOf(1, Kit.type(Kit.of(I)), Kit.type(Kit.of(I, L, F), D)),
                Kit.sectionOf(2, imported("host", "i", 0, 0)), 3, 2, 1, 1, 4, 4, 1, 112, 0, 0, 5, 3, 1, 0, 0,
                Kit.section(6, 2, I, 0, Kit.i32(1), 11, I, 0, Kit.i32(1), 11), Kit.sectionOf(7, Kit.export("a", 0, 1),
                Kit.export("b", 1, 0), Kit.export("c", 2, 0), Kit.export("d", 3, 1), Kit.export("e", 0, 0)),
                Kit.sectionOf(10, Kit.body(Kit.f64(1)))));
        int[][] due = {{0, 1, 3, 1}, {1, 0, 0, 0}, {2, 0, 0, 0}, {3, 1, 0, 0}, {0, 0, 1, 0}};
        for (int k = 0; k < due.length; k++) {
            for (int what = 0; what < 4; what++) {
                Kit.same("exported(0, " + k + ", " + what + ")", x.exported(made, k, what), due[k][what]);
            }
        }
        // What it has imported has its number in the instance that is asked.
        Kit.name(x, made, "a");
        int other = Kit.instance(x, Kit.module(Kit.sectionOf(1, Kit.type(Kit.of(I, L, F), D)),
                Kit.sectionOf(2, imported("a", "d", 3, I, 0), imported("a", "a", 0, 0)),
                Kit.sectionOf(7, Kit.export("x", 0, 0), Kit.export("y", 3, 0))));
        Kit.same("number of x", x.exported(other, 0, 1), 0);
        Kit.same("number of y", x.exported(other, 1, 1), 0);
        Kit.same("parameters of x", x.exported(other, 0, 2), 3);
        Kit.same("results of x", x.exported(other, 0, 3), 1);
        Kit.sentence("IndexOutOfBoundsException: also when there is no such export, or what.");
        for (int none : new int[] {-1, 5, 6, Integer.MAX_VALUE, Integer.MIN_VALUE}) {
            Kit.outside("no such export", () -> x.exported(made, none, 0));
            Kit.outside("no such what", () -> x.exported(made, 0, none));
        }
        Kit.outside("no such what", () -> x.exported(made, 0, 4));
        Kit.outside("no such what of a memory", () -> x.exported(made, 2, 4));
        Kit.outside("no such instance", () -> x.exported(2, 0, 0));
        Kit.outside("no such instance", () -> x.exported(-1, 0, 0));
    }

    private static void pushing() {
        Kit.sentence("One more argument: how many there are. IllegalStateException: there are 1000.");
        StackHost x = new StackHost();
        for (int k = 1; k <= 1000; k++) {
            Kit.same("push", x.push(k), k);
        }
        Kit.illegalState("push of the 1001st", () -> x.push(0));
        Kit.illegalState("push of the 1001st again", () -> x.push(0));
        int[] thousand = new int[1000];
        Arrays.fill(thousand, I);
        byte[] code = Kit.join(0x20, Kit.count(999), 0x20, 0, 0x6B);
        int made = Kit.instance(x, Kit.single(Kit.type(thousand, I), Kit.body(code)));
        x.invoke(made, 0);
        Kit.same("push after invoke", x.push(0), 1);
        Kit.same("run", x.run(10), 0);
        Kit.same("the last less the first", x.result(), 999);
        Kit.same("push", x.push(0), 2);
    }

    private static byte[] fourTypes() {
        return Kit.module(Kit.sectionOf(1, Kit.type(Kit.of(I, L, F, D), L)), 3, 2, 1, 0, 5, 3, 1, 0, 0,
                Kit.sectionOf(7, Kit.export("f", 0, 0), Kit.export("m", 2, 0)), Kit.sectionOf(10,
                Kit.body(0x20, 0, 0xAD, 0x20, 1, 0x7C, 0x20, 2, 0xBC, 0xAD, 0x7C, 0x20, 3, 0xBD, 0x7C)));
    }

    private static void invoking() {
        Kit.sentence("Export k of an instance, a function, is invoked with the arguments (of I and F their lowest 32 "
                + "bits), which are gone then.");
        StackHost x = new StackHost();
        int made = Kit.instance(x, fourTypes());
        long[] given = {-1, 1, -1, -1};
        for (long argument : given) {
            x.push(argument);
        }
        x.invoke(made, 0);
        Kit.same("they are gone", x.push(9), 1);
        Kit.same("run", x.run(100), 0);
        Kit.same("the lowest 32 bits of I and F, all of L and D", x.result(), 0xFFFFFFFFL + 1 + 0xFFFFFFFFL - 1);
        StackHost y = new StackHost();
        int echo = Kit.instance(y, Kit.module(Kit.sectionOf(1, Kit.type(Kit.of(I), I), Kit.type(Kit.of(L), L),
                Kit.type(Kit.of(F), F), Kit.type(Kit.of(D), D)), Kit.section(3, 4, 0, 1, 2, 3),
                Kit.sectionOf(7, Kit.export("i", 0, 0), Kit.export("l", 0, 1), Kit.export("f", 0, 2),
                Kit.export("d", 0, 3)), Kit.sectionOf(10, Kit.body(0x20, 0), Kit.body(0x20, 0), Kit.body(0x20, 0),
                Kit.body(0x20, 0))));
        for (int k = 0; k < 4; k++) {
            for (long bits : new long[] {-1, Long.MIN_VALUE, 0x1234567880000000L, 0x7FF0000000000001L}) {
                Kit.same("run", Kit.callOf(y, echo, k, bits), 0);
                Kit.same("echo " + k, y.result(), k == 0 || k == 2 ? bits & 0xFFFFFFFFL : bits);
            }
        }
    }

    private static void invokingWrongly() {
        Kit.sentence("IndexOutOfBoundsException: also when there is no such export; IllegalArgumentException: it is "
                + "no function, or has not as many parameters as there are arguments; IllegalStateException: a "
                + "function is under way.");
        StackHost x = new StackHost();
        int made = Kit.instance(x, fourTypes());
        Kit.outside("no such instance", () -> x.invoke(1, 0));
        Kit.outside("no such instance", () -> x.invoke(-1, 0));
        Kit.outside("no such export", () -> x.invoke(made, 2));
        Kit.outside("no such export", () -> x.invoke(made, -1));
        Kit.illegalArgument("no function", () -> x.invoke(made, 1));
        for (int k = 0; k < 4; k++) {
            Kit.illegalArgument(k + " arguments", () -> x.invoke(made, 0));
            x.push(0);
        }
        x.push(0);
        Kit.illegalArgument("five arguments", () -> x.invoke(made, 0));
        for (int kind = 1; kind <= 3; kind++) {
            // As many arguments as the function of that number has parameters.
            StackHost w = new StackHost();
            int all = Kit.instance(w, Kit.module(Kit.sectionOf(1, VOID_TYPE), 3, 2, 1, 0, Kit.section(4, 1, 112, 0, 0),
                    Kit.section(5, 1, 0, 0), Kit.section(6, 1, I, 0, Kit.i32(0), 11),
                    Kit.sectionOf(7, Kit.export("x", kind, 0)), Kit.sectionOf(10, Kit.body())));
            Kit.illegalArgument("an export of kind " + kind, () -> w.invoke(all, 0));
            Kit.illegalState("nothing is under way", () -> w.run(1));
        }
        StackHost y = new StackHost();
        int none = instanceOf(y, VOID_TYPE, 0);
        y.push(0);
        Kit.illegalArgument("one argument for none", () -> y.invoke(none, 0));
        Kit.same("it is still there", y.push(0), 2);
        StackHost z = new StackHost();
        int held = instanceOf(z, VOID_TYPE, 0);
        z.invoke(held, 0);
        Kit.illegalState("before its first run", () -> z.invoke(held, 0));
        z.run(0);
        Kit.illegalState("when it is held", () -> z.invoke(held, 0));
        Kit.same("it goes on", z.run(1), 1);
        z.invoke(held, 0);
        z.stop();
        z.invoke(held, 0);
        Kit.same("when it was stopped another one can be invoked", z.run(1), 1);
    }

    private static void running() {
        Kit.sentence("Runs what is under way with so much fuel: 0 it has ended, 1 it has ended with a trap, 2 it is "
                + "held.");
        StackHost x = new StackHost();
        int adding = instanceOf(x, Kit.type(Kit.of(), I), Kit.i32(1), Kit.i32(2), 0x6A);
        for (int n = 0; n <= 5; n++) {
            x.invoke(adding, 0);
            Kit.same("run(" + n + ")", x.run(n), n < 3 ? 2 : 0);
            x.stop();
        }
        int trapping = instanceOf(x, VOID_TYPE, Kit.i32(1), DROP, 0);
        for (int n = 0; n <= 5; n++) {
            x.invoke(trapping, 0);
            Kit.same("run(" + n + ")", x.run(n), n < 3 ? 2 : 1);
            x.stop();
        }
        // The most fuel: just so many steps, of two a turn.
        int endless = instanceOf(x, Kit.type(Kit.of()), 3, 64, Kit.i32(1), 0x0D, 0, 11);
        x.invoke(endless, 0);
        Kit.same("run(1000000)", x.run(1000000), 2);
        Kit.same("run(1000000)", x.run(1000000), 2);
        Kit.same("calls", x.calls(), 1);
        Kit.same("stop", x.stop(), 1);
        int counting = Kit.instance(x, Kit.single(VOID_TYPE, Kit.bodyWith(1, I, 3, 64, 0x20, 0, Kit.i32(1), 0x6A, 0x22,
                0, Kit.i32(142857), 0x48, 0x0D, 0, 11)));
        // Seven steps a turn: 999999 in all.
        x.invoke(counting, 0);
        Kit.same("run(999998)", x.run(999998), 2);
        Kit.same("run(1)", x.run(1), 0);
        x.invoke(counting, 0);
        Kit.same("run(1000000)", x.run(1000000), 0);
    }

    private static void runningWrongly() {
        Kit.sentence("IllegalArgumentException: fuel is below 0, or above 1000000; IllegalStateException: nothing is "
                + "under way.");
        StackHost x = new StackHost();
        int made = instanceOf(x, VOID_TYPE, 0);
        for (int fuel : new int[] {-1, 1000001, Integer.MIN_VALUE, Integer.MAX_VALUE}) {
            Kit.illegalArgument("run(" + fuel + "), nothing under way", () -> x.run(fuel));
        }
        Kit.illegalState("run(0)", () -> x.run(0));
        Kit.illegalState("run(1000000)", () -> x.run(1000000));
        x.invoke(made, 0);
        for (int fuel : new int[] {-1, 1000001, Integer.MIN_VALUE, Integer.MAX_VALUE}) {
            Kit.illegalArgument("run(" + fuel + ")", () -> x.run(fuel));
        }
        Kit.same("run(0)", x.run(0), 2);
        Kit.same("run(1000000)", x.run(1000000), 1);
        Kit.illegalState("it has ended", () -> x.run(0));
    }

    private static byte[] threeDeep() {
        return Kit.module(Kit.sectionOf(1, VOID_TYPE), 3, 4, 3, 0, 0, 0, Kit.sectionOf(7, Kit.export("f", 0, 0)),
                Kit.sectionOf(10, Kit.body(0x10, 1), Kit.body(0x10, 2), Kit.body(0)));
    }

    private static void stopping() {
        Kit.sentence("What is under way is so no more: how many calls were open. (What ended last stays told by "
                + "result() and trap().)");
        StackHost x = new StackHost();
        int made = Kit.instance(x, threeDeep());
        Kit.same("nothing under way", x.stop(), 0);
        x.invoke(made, 0);
        Kit.same("before a run", x.stop(), 0);
        Kit.illegalState("it is under way no more", () -> x.run(1));
        for (int n = 0; n <= 2; n++) {
            x.invoke(made, 0);
            x.run(n);
            Kit.same("calls", x.calls(), n + 1);
            Kit.same("stop", x.stop(), n + 1);
            Kit.same("calls", x.calls(), 0);
            Kit.same("stop again", x.stop(), 0);
            Kit.illegalState("run", () -> x.run(1));
        }
        Kit.same("it did not end with a trap", x.trap(0), 0);
        int giving = instanceOf(x, Kit.type(Kit.of(), I), Kit.i32(6));
        Kit.callOf(x, giving, 0);
        Kit.callOf(x, made, 0);
        x.invoke(giving, 0);
        x.run(0);
        x.stop();
        Kit.same("result stays", x.result(), 6);
        Kit.same("trap(0) stays", x.trap(0), 1);
        Kit.same("trap(2) stays", x.trap(2), 2);
        x.invoke(made, 0);
        Kit.same("another one begins from its start", x.run(0), 2);
        Kit.same("calls", x.calls(), 1);
    }

    private static void calls() {
        Kit.sentence("How many calls are open.");
        StackHost x = new StackHost();
        int made = Kit.instance(x, Kit.module(Kit.sectionOf(1, VOID_TYPE), 3, 3, 2, 0, 0,
                Kit.sectionOf(7, Kit.export("f", 0, 0)), Kit.sectionOf(10, Kit.body(0x10, 1, 0x10, 1),
                Kit.body(Kit.i32(0), DROP))));
        Kit.same("none", x.calls(), 0);
        x.invoke(made, 0);
        Kit.same("before a run", x.calls(), 0);
        int[] due = {2, 2, 1, 2, 2, 0};
        x.run(0);
        Kit.same("calls", x.calls(), 1);
        for (int k = 0; k < due.length; k++) {
            Kit.same("run", x.run(1), k < due.length - 1 ? 2 : 0);
            Kit.same("calls after step " + k, x.calls(), due[k]);
        }
    }

    private static void results() {
        Kit.sentence("The result of what ended last without a trap (of I and F without a sign); 0 if it had none, or "
                + "nothing did.");
        StackHost x = new StackHost();
        Kit.same("nothing did", x.result(), 0);
        int made = Kit.instance(x, Kit.module(Kit.sectionOf(1, Kit.type(Kit.of(), I), VOID_TYPE, Kit.type(Kit.of(), L),
                Kit.type(Kit.of(), F), Kit.type(Kit.of(), D)), Kit.section(3, 6, 0, 1, 1, 2, 3, 4),
                Kit.sectionOf(7, Kit.export("a", 0, 0), Kit.export("b", 0, 1), Kit.export("c", 0, 2),
                Kit.export("d", 0, 3), Kit.export("e", 0, 4), Kit.export("f", 0, 5)),
                Kit.sectionOf(10, Kit.body(Kit.i32(-7)), Kit.body(), Kit.body(0), Kit.body(Kit.i64(-7)),
                Kit.body(Kit.f32(-1)), Kit.body(Kit.f64(-1)))));
        Kit.callOf(x, made, 2);
        Kit.same("nothing did without a trap", x.result(), 0);
        Kit.callOf(x, made, 0);
        Kit.same("I has no sign", x.result(), 0xFFFFFFF9L);
        Kit.callOf(x, made, 2);
        Kit.same("a trap changes no result", x.result(), 0xFFFFFFF9L);
        x.invoke(made, 1);
        Kit.same("invoke changes no result", x.result(), 0xFFFFFFF9L);
        x.stop();
        Kit.same("stop changes no result", x.result(), 0xFFFFFFF9L);
        Kit.callOf(x, made, 1);
        Kit.same("it had none", x.result(), 0);
        Kit.callOf(x, made, 3);
        Kit.same("L", x.result(), -7);
        Kit.callOf(x, made, 4);
        Kit.same("F has no sign", x.result(), 0xBF800000L);
        Kit.callOf(x, made, 5);
        Kit.same("D", x.result(), Double.doubleToRawLongBits(-1));
    }

    private static void trapIs(String what, StackHost x, int code, int instance, int function, int place) {
        Kit.same(what + ", trap(0)", x.trap(0), code);
        Kit.same(what + ", trap(1)", x.trap(1), instance);
        Kit.same(what + ", trap(2)", x.trap(2), function);
        Kit.same(what + ", trap(3)", x.trap(3), place);
    }

    private static void traps() {
        Kit.sentence("Of what ended last with a trap: what = 0 its code, 1 the instance, 2 the function's number "
                + "there (in the instance whose own it is, imported ones first), 3 the instruction's place on its "
                + "module's tape");
        StackHost y = new StackHost();
        byte[] inner = Kit.module(Kit.sectionOf(1, Kit.type(Kit.of(I), I)), 3, 3, 2, 0, 0,
                Kit.sectionOf(7, Kit.export("d", 0, 1)), Kit.sectionOf(10, Kit.body(Kit.i32(1)),
                Kit.body(Kit.i32(100), 0x20, 0, 0x6D)));
        Kit.instance(y, EMPTY);
        int second = Kit.instance(y, inner);
        Kit.name(y, second, "in");
        byte[] outer = Kit.module(Kit.sectionOf(1, Kit.type(Kit.of(I), I)), Kit.sectionOf(2, imported("in", "d", 0, 0)),
                3, 3, 2, 0, 0, Kit.sectionOf(7, Kit.export("again", 0, 0), Kit.export("f", 0, 1),
                Kit.export("g", 0, 2)), Kit.sectionOf(10, Kit.body(0x20, 0, 0x10, 0), Kit.body(1, 0)));
        int third = Kit.instance(y, outer);
        Kit.same("run", Kit.callOf(y, third, 1, 7), 0);
        Kit.same("100 / 7", y.result(), 14);
        Kit.same("run", Kit.callOf(y, third, 1, 0), 1);
        trapIs("/ 0 in another instance", y, 3, second, 1, inner.length - 2);
        Kit.same("run", Kit.callOf(y, third, 2, 0), 1);
        trapIs("0x00: the imported one is counted", y, 1, third, 2, outer.length - 2);
        Kit.same("run", Kit.callOf(y, third, 0, 0), 1);
        trapIs("/ 0, called through an import", y, 3, second, 1, inner.length - 2);
        Kit.callOf(y, third, 1, 7);
        trapIs("one that ends without a trap changes nothing", y, 3, second, 1, inner.length - 2);
        y.push(0);
        y.invoke(third, 2);
        y.run(0);
        trapIs("nor one that is under way", y, 3, second, 1, inner.length - 2);
        y.stop();
        trapIs("nor one that is stopped", y, 3, second, 1, inner.length - 2);
    }

    private static void trapsOfNothing() {
        Kit.sentence("0, and NONE three times, if nothing did, or, for 1 to 3, if no call was open");
        StackHost x = new StackHost();
        trapIs("nothing did", x, 0, -1, -1, -1);
        int made = Kit.instance(x, Kit.module(Kit.sectionOf(1, Kit.type(Kit.of(I))),
                Kit.sectionOf(2, imported("host", "i", 0, 0)), 3, 2, 1, 0, Kit.sectionOf(7, Kit.export("i", 0, 0),
                Kit.export("f", 0, 1)), Kit.sectionOf(10, Kit.body(3, 64, 0x20, 0, 0x10, 0, 0x0C, 0, 11, 0))));
        Kit.callOf(x, made, 0, 1);
        trapIs("nothing did with a trap", x, 0, -1, -1, -1);
        Kit.same("run", Kit.callOf(x, made, 1, 1), 1);
        Kit.same("a call was open", x.trap(1), made);
        Kit.same("run", Kit.callOf(x, made, 0, 1), 1);
        trapIs("no call was open", x, 10, -1, -1, -1);
    }

    private static void pages() {
        Kit.sentence("How many pages the memory of an instance has; NONE without one. IndexOutOfBoundsException.");
        StackHost x = new StackHost();
        int none = Kit.instance(x, EMPTY);
        int empty = Kit.instance(x, Kit.module(5, 3, 1, 0, 0));
        int two = Kit.instance(x, Kit.module(5, 3, 1, 0, 2, Kit.sectionOf(7, Kit.export("m", 2, 0))));
        Kit.name(x, two, "m");
        int importing = Kit.instance(x, Kit.module(Kit.sectionOf(2, imported("m", "m", 2, 0, 1))));
        Kit.same("without a memory", x.pages(none), StackHost.NONE);
        Kit.same("an empty one", x.pages(empty), 0);
        Kit.same("two", x.pages(two), 2);
        Kit.same("an imported one", x.pages(importing), 2);
        Kit.outside("pages(4)", () -> x.pages(4));
        Kit.outside("pages(-1)", () -> x.pages(-1));
    }

    private static void peeking() {
        Kit.sentence("A byte of the memory of an instance, 0 .. 255. IndexOutOfBoundsException: also when there is "
                + "none.");
        StackHost x = new StackHost();
        int none = Kit.instance(x, EMPTY);
        int empty = Kit.instance(x, Kit.module(5, 3, 1, 0, 0));
        int two = Kit.instance(x, Kit.module(5, 3, 1, 0, 2, Kit.section(11, 2, 0, Kit.i32(0), 11, 3, 255, 128, 127, 0,
                Kit.i32(131071), 11, 1, 200)));
        int[] due = {255, 128, 127, 0};
        for (int at = 0; at < due.length; at++) {
            Kit.same("peek(" + at + ")", x.peek(two, at), due[at]);
        }
        Kit.same("the last byte", x.peek(two, 131071), 200);
        Kit.outside("one beyond", () -> x.peek(two, 131072));
        Kit.outside("one below", () -> x.peek(two, -1));
        Kit.outside("far beyond", () -> x.peek(two, Integer.MAX_VALUE));
        Kit.outside("far below", () -> x.peek(two, Integer.MIN_VALUE));
        Kit.outside("without a memory", () -> x.peek(none, 0));
        Kit.outside("of an empty one", () -> x.peek(empty, 0));
        Kit.outside("of no instance", () -> x.peek(3, 0));
        Kit.outside("of no instance", () -> x.peek(-1, 0));
    }

    private static void poking() {
        Kit.sentence("A byte of the memory of an instance becomes another one (the lowest eight bits). "
                + "IndexOutOfBoundsException: also when there is none.");
        StackHost x = new StackHost();
        int none = Kit.instance(x, EMPTY);
        int empty = Kit.instance(x, Kit.module(5, 3, 1, 0, 0));
        int two = Kit.instance(x, Kit.module(5, 3, 1, 0, 2));
        for (int at : new int[] {0, 1, 7, 8, 65535, 65536, 131071}) {
            Kit.same("before", x.peek(two, at), 0);
            x.poke(two, at, 0x1FF - at);
            Kit.same("peek(" + at + ")", x.peek(two, at), 0x1FF - at & 255);
        }
        x.poke(two, 8, -1);
        Kit.same("the byte below", x.peek(two, 7), 0x1F8 & 255);
        Kit.same("all eight bits", x.peek(two, 8), 255);
        Kit.same("the byte above", x.peek(two, 9), 0);
        x.poke(two, 8, 256);
        Kit.same("the lowest eight bits alone", x.peek(two, 8), 0);
        x.poke(two, 8, Integer.MIN_VALUE + 129);
        Kit.same("the lowest eight bits alone", x.peek(two, 8), 129);
        Kit.outside("one beyond", () -> x.poke(two, 131072, 0));
        Kit.outside("one below", () -> x.poke(two, -1, 0));
        Kit.outside("far beyond", () -> x.poke(two, Integer.MAX_VALUE, 0));
        Kit.outside("without a memory", () -> x.poke(none, 0, 0));
        Kit.outside("of an empty one", () -> x.poke(empty, 0, 0));
        Kit.outside("of no instance", () -> x.poke(3, 0, 0));
        Kit.outside("of no instance", () -> x.poke(-1, 0, 0));
    }

    private static void variables() {
        Kit.sentence("Variable k of an instance, its bits (of I and F without a sign). IndexOutOfBoundsException: "
                + "also when there is none.");
        StackHost x = new StackHost();
        int first = Kit.instance(x, Kit.module(Kit.section(6, 4, I, 1, Kit.i32(-5), 11, L, 0, Kit.i64(-9), 11, F, 0,
                Kit.f32(-1), 11, D, 0, Kit.f64(-1), 11), Kit.sectionOf(7, Kit.export("v", 3, 2))));
        long[] due = {0xFFFFFFFBL, -9, 0xBF800000L, Double.doubleToRawLongBits(-1)};
        for (int k = 0; k < 4; k++) {
            Kit.same("variable(0, " + k + ")", x.variable(first, k), due[k]);
        }
        Kit.name(x, first, "a");
        int second = Kit.instance(x, Kit.module(Kit.sectionOf(2, imported("a", "v", 3, F, 0)),
                Kit.section(6, 1, I, 0, Kit.i32(4), 11)));
        Kit.same("imported ones first", x.variable(second, 0), 0xBF800000L);
        Kit.same("then its own", x.variable(second, 1), 4);
        int none = Kit.instance(x, EMPTY);
        Kit.outside("variable(0, 4)", () -> x.variable(first, 4));
        Kit.outside("variable(0, -1)", () -> x.variable(first, -1));
        Kit.outside("one beyond", () -> x.variable(second, 2));
        Kit.outside("there are none", () -> x.variable(none, 0));
        Kit.outside("no instance", () -> x.variable(3, 0));
        Kit.outside("no instance", () -> x.variable(-1, 0));
        int setting = Kit.instance(x, Kit.module(Kit.sectionOf(1, Kit.type(Kit.of(I, F))), 3, 2, 1, 0,
                Kit.section(6, 2, I, 1, Kit.i32(0), 11, F, 1, Kit.f32(0), 11), Kit.sectionOf(7, Kit.export("s", 0, 0)),
                Kit.sectionOf(10, Kit.body(0x20, 0, 0x24, 0, 0x20, 1, 0x24, 1))));
        Kit.callOf(x, setting, 0, -1, -1);
        Kit.same("one that was set", x.variable(setting, 0), 0xFFFFFFFFL);
        Kit.same("one that was set", x.variable(setting, 1), 0xFFFFFFFFL);
    }

    private static void elements() {
        Kit.sentence("Element k of the table of an instance: 65536 times the instance, and the number there, of the "
                + "function in it as its own module has it, or 65536 * 32767 and 0 .. 3 for the host's; NONE when "
                + "nothing is in it. IndexOutOfBoundsException: also when there is none.");
        StackHost x = new StackHost();
        int none = Kit.instance(x, EMPTY);
        int made = Kit.instance(x, Kit.module( Kit.sectionOf(1, Kit.type(Kit.of(I)), Kit.type(Kit.of(L)),
                Kit.type(Kit.of(F)), Kit.type(Kit.of(D))), Kit.sectionOf(2, imported("host", "d", 0, 3),
                imported("host", "f", 0, 2), imported("host", "l", 0, 1), imported("host", "i", 0, 0)),
                Kit.section(3, 2, 0, 1), Kit.section(4, 1, 112, 0, 8), Kit.sectionOf(7, Kit.export("t", 1, 0),
                Kit.export("f", 0, 5), Kit.export("h", 0, 0)), Kit.section(9, 1, 0, Kit.i32(1), 11, 6, 0, 1, 2, 3, 4,
                5), Kit.sectionOf(10, Kit.body(), Kit.body())));
        int host = 65536 * 32767;
        int[] due = {-1, host + 3, host + 2, host + 1, host, 65536 + 4, 65536 + 5, -1};
        for (int k = 0; k < due.length; k++) {
            Kit.same("element(" + k + ")", x.element(made, k), due[k]);
        }
        // In another's table, and through another's import, a function is still its own module's.
        Kit.name(x, made, "a");
        int other = Kit.instance(x, Kit.module(Kit.sectionOf(1, Kit.type(Kit.of(L)), Kit.type(Kit.of(D))),
                Kit.sectionOf(2, imported("a", "t", 1, 112, 0, 8), imported("a", "f", 0, 0), imported("a", "h", 0, 1)),
                Kit.section(9, 2, 0, Kit.i32(0), 11, 1, 0, 0, Kit.i32(7), 11, 1, 1)));
        Kit.same("element(0)", x.element(other, 0), 65536 + 5);
        Kit.same("element(7)", x.element(made, 7), host + 3);
        Kit.outside("element(8)", () -> x.element(made, 8));
        Kit.outside("element(8) of the other", () -> x.element(other, 8));
        Kit.outside("element(-1)", () -> x.element(made, -1));
        Kit.outside("an instance without a table", () -> x.element(none, 0));
        Kit.outside("no instance", () -> x.element(3, 0));
        Kit.outside("no instance", () -> x.element(-1, 0));
        int empty = Kit.instance(x, Kit.module(4, 4, 1, 112, 0, 0));
        Kit.outside("an empty table", () -> x.element(empty, 0));
    }

    private static void wrongSteps() {
        Kit.sentence("(As only valid modules are run, it is 0, whoever counts: one who keeps a type with every value "
                + "counts them; who does not answers 0.)");
        StackHost x = new StackHost();
        Kit.same("a new object", x.wrong(), 0);
        int made = Kit.instance(x, threeDeep());
        Kit.callOf(x, made, 0);
        Kit.same("behind a trap", x.wrong(), 0);
        int adding = instanceOf(x, Kit.type(Kit.of(I), I), 0x20, 0, Kit.i32(2), 0x6A);
        Kit.callOf(x, adding, 0, -1);
        Kit.same("behind a run", x.wrong(), 0);
    }

    private static byte[] putting() {
        return Kit.module(Kit.sectionOf(1, Kit.type(Kit.of(I)), Kit.type(Kit.of(L)), Kit.type(Kit.of(F)),
                Kit.type(Kit.of(D))), Kit.sectionOf(2, imported("host", "i", 0, 0), imported("host", "l", 0, 1),
                imported("host", "f", 0, 2), imported("host", "d", 0, 3)), Kit.sectionOf(7, Kit.export("i", 0, 0),
                Kit.export("l", 0, 1), Kit.export("f", 0, 2), Kit.export("d", 0, 3)));
    }

    private static void outs() {
        Kit.sentence("How many numbers are in OUT.");
        StackHost x = new StackHost();
        int made = Kit.instance(x, putting());
        Kit.same("none", x.outs(), 0);
        for (int k = 1; k <= 9; k++) {
            Kit.callOf(x, made, k % 4, k);
            Kit.same("outs", x.outs(), k);
        }
    }

    private static void out() {
        Kit.sentence("Number k of OUT, its bits (of I and F without a sign). IndexOutOfBoundsException: there is "
                + "none.");
        StackHost x = new StackHost();
        int made = Kit.instance(x, putting());
        Kit.outside("out(0)", () -> x.out(0));
        for (int k = 0; k < 4; k++) {
            Kit.callOf(x, made, k, -2 - k);
        }
        long[] due = {0xFFFFFFFEL, -3, 0xFFFFFFFCL, -5};
        for (int k = 0; k < 4; k++) {
            Kit.same("out(" + k + ")", x.out(k), due[k]);
        }
        Kit.outside("out(4)", () -> x.out(4));
        Kit.outside("out(-1)", () -> x.out(-1));
        Kit.outside("out(greatest)", () -> x.out(Integer.MAX_VALUE));
    }

    private static void clearing() {
        Kit.sentence("OUT is empty: how many there were.");
        StackHost x = new StackHost();
        int made = Kit.instance(x, putting());
        Kit.same("clear of none", x.clear(), 0);
        for (int k = 0; k < 5; k++) {
            Kit.callOf(x, made, 0, k);
        }
        Kit.same("clear", x.clear(), 5);
        Kit.same("outs", x.outs(), 0);
        Kit.outside("out(0)", () -> x.out(0));
        Kit.same("clear again", x.clear(), 0);
        Kit.callOf(x, made, 1, 77);
        Kit.same("outs", x.outs(), 1);
        Kit.same("out(0)", x.out(0), 77);
    }
}
