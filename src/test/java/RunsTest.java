import java.util.Arrays;

/** Parts 6 and 7 of the terms, sentence by sentence: runs by fuel, and what calls that throw leave as it was. */
public final class RunsTest {
    private static final int I = Kit.I;
    private static final int L = Kit.L;
    private static final int F = Kit.F;
    private static final int D = Kit.D;
    private static final int DROP = 0x1A;
    private static final byte[] VOID_TYPE = Kit.type(Kit.of());

    public static void main(String[] args) {
        theFirstRunCalls();
        theHostsEndAtOnce();
        callsThatTrapAtOnce();
        freeInstructions();
        everyStep();
        everyNumberIsAStep();
        beforeItDoesAnything();
        heldAndGoingOn();
        whatIsFreeIsDoneBefore();
        howeverItIsHeld();
        endsOfAllCalls();
        trapsOfAllCalls();
        manyNames();
        firstNamedException();
        throwingChangesNothing();
        numbersOutside();
        Kit.close();
    }

    private static int instanceOf(StackHost x, byte[] type, Object... code) {
        return Kit.instance(x, Kit.single(type, Kit.body(code)));
    }

    private static byte[] imported(String instance, String export, int... what) {
        return Kit.join(Kit.text(instance), Kit.text(export), Kit.bytes(what));
    }

    private static void theFirstRunCalls() {
        Kit.sentence("A function that is invoked, with arguments, is UNDER WAY; its first run calls it, with nothing "
                + "open");
        StackHost x = new StackHost();
        int made = instanceOf(x, Kit.type(Kit.of(I), I), 0x20, 0);
        Kit.illegalState("nothing is under way", () -> x.run(1));
        x.push(5);
        x.invoke(made, 0);
        Kit.same("calls before its first run", x.calls(), 0);
        Kit.illegalState("it is under way", () -> x.instantiate(0));
        Kit.same("run(0)", x.run(0), 2);
        Kit.same("calls", x.calls(), 1);
        Kit.same("run(0) again", x.run(0), 2);
        Kit.same("calls", x.calls(), 1);
        Kit.same("run(1)", x.run(1), 0);
        Kit.same("result", x.result(), 5);
    }

    private static void theHostsEndAtOnce() {
        Kit.sentence("(one of the host's, too, which ends at once; a call that traps ends it, too)");
        StackHost x = new StackHost();
        int made = Kit.instance(x, Kit.module(Kit.sectionOf(1, Kit.type(Kit.of(I)), Kit.type(Kit.of(D))),
                Kit.sectionOf(2, imported("host", "i", 0, 0), imported("host", "d", 0, 1)),
                Kit.sectionOf(7, Kit.export("i", 0, 0), Kit.export("d", 0, 1))));
        x.push(-1);
        x.invoke(made, 0);
        Kit.same("nothing is in OUT before its run", x.outs(), 0);
        Kit.same("without fuel", x.run(0), 0);
        Kit.same("calls", x.calls(), 0);
        Kit.same("outs", x.outs(), 1);
        Kit.same("out(0)", x.out(0), 0xFFFFFFFFL);
        Kit.same("it has no result", x.result(), 0);
        Kit.illegalState("it has ended", () -> x.run(1));
        Kit.same("run", Kit.callOf(x, made, 1, -2), 0);
        Kit.same("out(1)", x.out(1), -2);
    }

    private static void callsThatTrapAtOnce() {
        Kit.sentence("(one of the host's, too, which ends at once; a call that traps ends it, too)");
        StackHost x = new StackHost();
        byte[] tall = new byte[3 * 16385];
        for (int k = 0; k < 16385; k++) {
            tall[2 * k] = 0x41;
            tall[2 * 16385 + k] = DROP;
        }
        int made = instanceOf(x, VOID_TYPE, tall);
        x.invoke(made, 0);
        Kit.same("run(0)", x.run(0), 1);
        Kit.same("trap(0)", x.trap(0), 9);
        for (int what = 1; what <= 3; what++) {
            Kit.same("no call was open", x.trap(what), -1);
        }
        Kit.same("calls", x.calls(), 0);
        Kit.illegalState("it has ended", () -> x.run(1));
    }

    /** Whether a function takes just so many steps. */
    private static void stepsAre(String what, StackHost x, int made, int due, long... arguments) {
        for (int fuel = Math.max(0, due - 2); fuel <= due + 1; fuel++) {
            for (long argument : arguments) {
                x.push(argument);
            }
            x.invoke(made, 0);
            Kit.same(what + " with " + fuel, x.run(fuel), fuel < due ? 2 : 0);
            x.stop();
        }
    }

    private static void freeInstructions() {
        Kit.sentence("each instruction but 0x01, 0x02, 0x03, 0x05 and 0x0B is a STEP and needs one of fuel");
        StackHost x = new StackHost();
        stepsAre("0x01", x, instanceOf(x, VOID_TYPE, 1, 1, 1), 0);
        stepsAre("0x02 and 0x0B", x, instanceOf(x, VOID_TYPE, 2, 64, 2, 64, 11, 11), 0);
        stepsAre("0x03 and 0x0B", x, instanceOf(x, VOID_TYPE, 3, 64, 3, 64, 11, 11), 0);
        stepsAre("0x0B alone", x, instanceOf(x, VOID_TYPE), 0);
        int choosing = instanceOf(x, Kit.type(Kit.of(I)), 0x20, 0, 4, 64, 1, 5, 1, 11);
        stepsAre("0x04, then 0x05 and 0x0B", x, choosing, 2, 1);
        stepsAre("0x04, then behind 0x05", x, choosing, 2, 0);
        int alone = instanceOf(x, Kit.type(Kit.of(I)), 0x20, 0, 4, 64, 1, 11);
        stepsAre("0x04 without 0x05", x, alone, 2, 0);
        stepsAre("0x04 without 0x05", x, alone, 2, 1);
    }

    private static void everyStep() {
        Kit.sentence("each instruction but 0x01, 0x02, 0x03, 0x05 and 0x0B is a STEP and needs one of fuel");
        byte[] head = Kit.module(Kit.sectionOf(1, VOID_TYPE, Kit.type(Kit.of(I))),
                Kit.sectionOf(2, imported("host", "i", 0, 1)), Kit.section(3, 2, 0, 0), Kit.section(4, 1, 112, 0, 1),
                Kit.section(5, 1, 0, 1), Kit.section(6, 1, I, 1, Kit.i32(0), 11),
                Kit.sectionOf(7, Kit.export("f", 0, 1)), Kit.section(9, 1, 0, Kit.i32(0), 11, 1, 2));
        // How many steps, and the code.
        Object[][] codes = {
            {1, 0x0C, 0}, {1, 0x0F}, {2, Kit.i32(0), 0x0D, 0}, {2, Kit.i32(1), 0x0D, 0}, {2, Kit.i32(0), 0x0E, 0, 0},
            {2, Kit.i32(7), 0x0E, 2, 0, 0, 0}, {1, 0x10, 2}, {2, Kit.i32(0), 0x10, 0}, {2, Kit.i32(0), 0x11, 0, 0},
            {2, Kit.i32(1), DROP}, {5, Kit.i32(1), Kit.i32(2), Kit.i32(3), 0x1B, DROP}, {2, 0x20, 0, DROP},
            {2, Kit.i32(1), 0x21, 0}, {3, Kit.i32(1), 0x22, 0, DROP}, {2, 0x23, 0, DROP}, {2, Kit.i32(1), 0x24, 0},
            {2, 0x3F, 0, DROP}, {3, Kit.i32(0), 0x40, 0, DROP}, {2, Kit.i64(1), DROP}, {2, Kit.f32(1), DROP},
            {2, Kit.f64(1), DROP},
            {2, 2, 64, Kit.i32(0), 0x0D, 0, 11}, {6, 3, 64, 0x23, 0, Kit.i32(1), 0x22, 0, 0x24, 0, 0x45, 0x0D, 1, 11}};
        for (int k = 0; k < codes.length; k++) {
            Object[] code = Arrays.copyOfRange(codes[k], 1, codes[k].length);
            StackHost x = new StackHost();
            int made = Kit.instance(x, Kit.join(head, Kit.section(10, 2, Kit.bodyWith(1, I, code), Kit.body(1))));
            stepsAre("code " + k, x, made, (Integer) codes[k][0]);
        }
        for (int op = 0x28; op <= 0x3E; op++) {
            byte[] value = new byte[][] {Kit.i32(0), Kit.i64(0), Kit.f32(0), Kit.f64(0), Kit.i32(0), Kit.i32(0),
                    Kit.i64(0), Kit.i64(0), Kit.i64(0)}[Math.max(0, op - 0x36)];
            Object[] code = op < 0x36 ? new Object[] {Kit.i32(0), op, 0, 0, DROP} : new Object[] {Kit.i32(0), value, op,
                    0, 0};
            StackHost x = new StackHost();
            int made = Kit.instance(x, Kit.join(head, Kit.section(10, 2, Kit.body(code), Kit.body())));
            stepsAre("memory instruction " + op, x, made, 3);
        }
    }

    private static byte[] constant(int type) {
        return type == I ? Kit.i32(1) : type == L ? Kit.i64(1) : type == F ? Kit.f32(1) : Kit.f64(1);
    }

    private static void everyNumberIsAStep() {
        Kit.sentence("each instruction but 0x01, 0x02, 0x03, 0x05 and 0x0B is a STEP and needs one of fuel");
        for (int op = 0x45; op <= 0xBF; op++) {
            byte[] number = constant(Calculator.type(op));
            byte[] before = Calculator.taken(op) == 1 ? number : Kit.join(number, number);
            StackHost x = new StackHost();
            stepsAre("instruction " + op, x, instanceOf(x, VOID_TYPE, before, op, DROP), Calculator.taken(op) + 2);
        }
    }

    private static void beforeItDoesAnything() {
        Kit.sentence("needs one of fuel, before it does anything");
        StackHost x = new StackHost();
        int made = Kit.instance(x, Kit.module(Kit.sectionOf(1, VOID_TYPE, Kit.type(Kit.of(I))),
                Kit.sectionOf(2, imported("host", "i", 0, 1)), Kit.section(3, 2, 0, 0), Kit.section(5, 1, 0, 1),
                Kit.section(6, 1, I, 1, Kit.i32(3), 11), Kit.sectionOf(7, Kit.export("f", 0, 1)),
                Kit.sectionOf(10, Kit.body(Kit.i32(8), Kit.i32(9), 0x36, 0, 0, Kit.i32(4), 0x24, 0, Kit.i32(1), 0x40, 0,
                0x10, 0, 0x10, 2), Kit.body(0))));
        x.invoke(made, 0);
        Kit.same("up to the store", x.run(2), 2);
        Kit.same("nothing is stored", x.peek(made, 8), 0);
        Kit.same("the store, and up to 0x24", x.run(2), 2);
        Kit.same("it is stored", x.peek(made, 8), 9);
        Kit.same("nothing is set", x.variable(made, 0), 3);
        Kit.same("0x24, and up to 0x40", x.run(2), 2);
        Kit.same("it is set", x.variable(made, 0), 4);
        Kit.same("nothing has grown", x.pages(made), 1);
        Kit.same("0x40", x.run(1), 2);
        Kit.same("it has grown", x.pages(made), 2);
        Kit.same("the host's is not called", x.outs(), 0);
        Kit.same("it is called", x.run(1), 2);
        Kit.same("outs", x.outs(), 1);
        Kit.same("the other is not called", x.calls(), 1);
        Kit.same("it is called", x.run(1), 2);
        Kit.same("calls", x.calls(), 2);
        Kit.same("it does not trap", x.run(0), 2);
        Kit.same("trap(0)", x.trap(0), 0);
        Kit.same("it traps", x.run(1), 1);
        Kit.same("trap(0)", x.trap(0), 1);
    }

    private static void heldAndGoingOn() {
        Kit.sentence("without fuel the run is held there");
        StackHost x = new StackHost();
        int made = instanceOf(x, Kit.type(Kit.of(), I), Kit.i32(1), Kit.i32(2), 0x6A);
        x.invoke(made, 0);
        Kit.same("run(2)", x.run(2), 2);
        Kit.same("run(0)", x.run(0), 2);
        Kit.same("calls", x.calls(), 1);
        Kit.sentence("and another run goes on");
        Kit.same("run(1)", x.run(1), 0);
        Kit.same("result", x.result(), 3);
        x.invoke(made, 0);
        for (int k = 0; k < 3; k++) {
            Kit.same("run(1)", x.run(1), k < 2 ? 2 : 0);
        }
        Kit.same("result", x.result(), 3);
        Kit.illegalState("it has ended", () -> x.run(1));
    }

    private static void whatIsFreeIsDoneBefore() {
        Kit.sentence("(what needs none is done before)");
        StackHost x = new StackHost();
        int tail = instanceOf(x, VOID_TYPE, Kit.i32(1), DROP, 1, 2, 64, 1, 11, 1);
        x.invoke(tail, 0);
        Kit.same("what is free behind the last step", x.run(2), 0);
        // The ends of two calls are free; the last step is in the third.
        int calling = Kit.instance(x, Kit.module(Kit.sectionOf(1, VOID_TYPE), 3, 4, 3, 0, 0, 0,
                Kit.sectionOf(7, Kit.export("f", 0, 0)), Kit.sectionOf(10, Kit.body(0x10, 1, 1, 1),
                Kit.body(0x10, 2, 1), Kit.body(Kit.i32(0), DROP, 1))));
        x.invoke(calling, 0);
        Kit.same("run(2)", x.run(2), 2);
        Kit.same("calls", x.calls(), 3);
        Kit.same("run(1)", x.run(1), 2);
        Kit.same("calls", x.calls(), 3);
        Kit.same("run(1)", x.run(1), 0);
        // An end of a call is done before the run is held in the call below.
        int below = Kit.instance(x, Kit.module(Kit.sectionOf(1, VOID_TYPE), 3, 3, 2, 0, 0,
                Kit.sectionOf(7, Kit.export("f", 0, 0)), Kit.sectionOf(10, Kit.body(0x10, 1, 0x0F), Kit.body(1))));
        x.invoke(below, 0);
        Kit.same("run(1)", x.run(1), 2);
        Kit.same("the call has ended", x.calls(), 1);
        Kit.same("run(1)", x.run(1), 0);
    }

    private static void howeverItIsHeld() {
        Kit.sentence("and runs go on with it by fuel");
        // Counts down from its argument, nine steps a turn; the result is the same however it is held.
        StackHost x = new StackHost();
        int made = Kit.instance(x, Kit.single(Kit.type(Kit.of(I), I), Kit.bodyWith(1, I, 3, 64, 0x20, 0, 0x20, 1, 0x6A,
                0x21, 1, 0x20, 0, 0x41, 1, 0x6B, 0x22, 0, 0x0D, 0, 11, 0x20, 1)));
        for (int fuel = 1; fuel < 40; fuel++) {
            x.push(10);
            x.invoke(made, 0);
            int runs = 0;
            int how = 2;
            while (how == 2 && runs < 1000) {
                how = x.run(fuel);
                runs++;
            }
            Kit.same("run", how, 0);
            Kit.same("result with fuel " + fuel, x.result(), 55);
            Kit.same("runs with fuel " + fuel, runs, (91 + fuel - 1) / fuel);
        }
    }

    private static void endsOfAllCalls() {
        Kit.sentence("It ends with the end of the first call");
        StackHost x = new StackHost();
        int made = Kit.instance(x, Kit.module(Kit.sectionOf(1, Kit.type(Kit.of(), I)), 3, 3, 2, 0, 0,
                Kit.sectionOf(7, Kit.export("f", 0, 0)), Kit.sectionOf(10, Kit.body(0x10, 1, Kit.i32(1), 0x6A),
                Kit.body(Kit.i32(5)))));
        x.invoke(made, 0);
        Kit.same("the end of the second call does not end it", x.run(2), 2);
        Kit.same("calls", x.calls(), 1);
        Kit.same("result", x.result(), 0);
        Kit.same("the end of the first", x.run(2), 0);
        Kit.same("calls", x.calls(), 0);
        Kit.same("result", x.result(), 6);
    }

    private static void trapsOfAllCalls() {
        Kit.sentence("or with a trap: all open calls are gone then; what was stored, stays");
        StackHost x = new StackHost();
        int made = Kit.instance(x, Kit.module(Kit.sectionOf(1, VOID_TYPE), 3, 4, 3, 0, 0, 0, Kit.section(5, 1, 0, 1),
                Kit.section(6, 1, I, 1, Kit.i32(0), 11), Kit.sectionOf(7, Kit.export("f", 0, 0)),
                Kit.sectionOf(10, Kit.body(0x10, 1), Kit.body(Kit.i32(77), 0x24, 0, 0x10, 2),
                Kit.body(Kit.i32(3), Kit.i32(9), 0x36, 0, 0, 0))));
        x.invoke(made, 0);
        Kit.same("run", x.run(7), 2);
        Kit.same("calls", x.calls(), 3);
        Kit.same("run", x.run(1), 1);
        Kit.same("calls", x.calls(), 0);
        Kit.same("what was stored", x.peek(made, 3), 9);
        Kit.same("what was set", x.variable(made, 0), 77);
        Kit.illegalState("it has ended", () -> x.run(1));
        x.invoke(made, 0);
        Kit.same("another one begins with nothing open", x.run(0), 2);
        Kit.same("calls", x.calls(), 1);
    }

    private static void manyNames() {
        Kit.sentence("and as many names as calls of name()");
        StackHost x = new StackHost();
        int first = Kit.instance(x, Kit.module(Kit.section(6, 1, I, 0, Kit.i32(1), 11),
                Kit.sectionOf(7, Kit.export("v", 3, 0))));
        int second = Kit.instance(x, Kit.module(Kit.section(6, 1, I, 0, Kit.i32(2), 11),
                Kit.sectionOf(7, Kit.export("v", 3, 0))));
        for (int k = 0; k < 500; k++) {
            Kit.name(x, k % 3 == 0 ? second : first, "name" + k);
        }
        for (int k : new int[] {0, 1, 2, 3, 127, 128, 254, 255, 256, 257, 498, 499}) {
            int seen = Kit.instance(x, Kit.module(Kit.sectionOf(2, imported("name" + k, "v", 3, I, 0))));
            Kit.same("name" + k, x.variable(seen, 0), k % 3 == 0 ? 2 : 1);
        }
    }

    private static void firstNamedException() {
        Kit.sentence("Methods throw what their comments name, the one named first when several would do.");
        StackHost x = new StackHost();
        int made = Kit.instance(x, Kit.module(Kit.sectionOf(1, Kit.type(Kit.of(I))), 3, 2, 1, 0,
                Kit.section(5, 1, 0, 0), Kit.sectionOf(7, Kit.export("f", 0, 0), Kit.export("m", 2, 0)),
                Kit.sectionOf(10, Kit.body(Kit.i32(0), DROP))));
        Kit.illegalArgument("run(-1), nothing under way", () -> x.run(-1));
        Kit.illegalArgument("run(1000001), nothing under way", () -> x.run(1000001));
        x.push(1);
        x.invoke(made, 0);
        Kit.outside("instantiate of none, under way", () -> x.instantiate(1));
        Kit.illegalState("instantiate, under way", () -> x.instantiate(0));
        Kit.outside("invoke of no instance, under way", () -> x.invoke(1, 0));
        Kit.outside("invoke of no export, under way", () -> x.invoke(made, 2));
        Kit.illegalArgument("invoke of no function, under way", () -> x.invoke(made, 1));
        Kit.illegalArgument("invoke without arguments, under way", () -> x.invoke(made, 0));
        x.push(1);
        Kit.illegalState("invoke, under way", () -> x.invoke(made, 0));
    }

    private static void throwingChangesNothing() {
        Kit.sentence("A call that throws changes nothing (the tape, too).");
        StackHost x = new StackHost();
        int made = instanceOf(x, Kit.type(Kit.of(I), I), 0x20, 0);
        Kit.load(x, Kit.module(12));
        x.push(5);
        x.feed(0x66000000, 0, 0, 0, 0);
        x.end(1);
        Kit.illegalArgument("end", () -> x.end(2));
        Kit.outside("name", () -> x.name(1));
        Kit.outside("find", () -> x.find(1));
        Kit.outside("instantiate", () -> x.instantiate(1));
        Kit.illegalArgument("run", () -> x.run(-1));
        Kit.illegalState("run", () -> x.run(0));
        Kit.outside("invoke", () -> x.invoke(made, 1));
        Kit.same("fault(0)", x.fault(0), 5);
        Kit.same("fault(1)", x.fault(1), 8);
        x.invoke(made, 0);
        Kit.illegalArgument("run", () -> x.run(1000001));
        Kit.illegalState("instantiate", () -> x.instantiate(0));
        Kit.same("fault(0)", x.fault(0), 5);
        x.push(6);
        Kit.illegalState("invoke", () -> x.invoke(made, 0));
        Kit.same("calls", x.calls(), 0);
        Kit.same("what was under way is so still", x.run(1), 0);
        Kit.same("with its own argument", x.result(), 5);
        Kit.same("the tape is as it was", x.find(made), 0);
        x.invoke(made, 0);
        Kit.same("the argument is still there", x.run(1), 0);
        Kit.same("result", x.result(), 6);
    }

    private static void numbersOutside() {
        Kit.sentence("IndexOutOfBoundsException: there is no such module, instance, or number.");
        StackHost x = new StackHost();
        Kit.instance(x, Kit.module(Kit.sectionOf(1, VOID_TYPE), 3, 2, 1, 0, Kit.section(4, 1, 112, 0, 1),
                Kit.section(5, 1, 0, 1), Kit.section(6, 1, I, 0, Kit.i32(0), 11),
                Kit.sectionOf(7, Kit.export("f", 0, 0)), Kit.sectionOf(10, Kit.body())));
        for (int none : new int[] {-1, 1, 2, 63, 64, 65, 24, 65536, Integer.MAX_VALUE, Integer.MIN_VALUE}) {
            Kit.outside("module", () -> x.module(none, 0));
            Kit.outside("room", () -> x.room(none, 0));
            Kit.outside("room of no body", () -> x.room(0, none));
            Kit.outside("instantiate", () -> x.instantiate(none));
            Kit.outside("name", () -> x.name(none));
            Kit.outside("find", () -> x.find(none));
            Kit.outside("exported", () -> x.exported(none, 0, 0));
            Kit.outside("exported of no export", () -> x.exported(0, none, 0));
            Kit.outside("invoke", () -> x.invoke(none, 0));
            Kit.outside("invoke of no export", () -> x.invoke(0, none));
            Kit.outside("pages", () -> x.pages(none));
            Kit.outside("peek", () -> x.peek(none, 0));
            Kit.outside("poke", () -> x.poke(none, 0, 0));
            Kit.outside("variable", () -> x.variable(none, 0));
            Kit.outside("variable of none", () -> x.variable(0, none));
            Kit.outside("element", () -> x.element(none, 0));
            Kit.outside("element of none", () -> x.element(0, none));
            Kit.outside("out", () -> x.out(none));
        }
        for (int none : new int[] {-1, 65536, Integer.MAX_VALUE, Integer.MIN_VALUE}) {
            Kit.outside("peek of no byte", () -> x.peek(0, none));
            Kit.outside("poke of no byte", () -> x.poke(0, none, 0));
            Kit.outside("module of nothing", () -> x.module(0, none));
            Kit.outside("exported of nothing", () -> x.exported(0, 0, none));
            Kit.outside("fault", () -> x.fault(none));
            Kit.outside("trap", () -> x.trap(none));
        }
    }
}
