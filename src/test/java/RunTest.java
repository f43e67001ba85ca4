/** Promises 12 to 18, parts 4 and 6: arguments, invoking, runs by fuel, calls, traps and results. */
public final class RunTest {
    private static final int I = Kit.I;
    private static final int L = Kit.L;
    private static final int F = Kit.F;
    private static final int D = Kit.D;

    public static void main(String[] args) {
        pushing();
        invoking();
        fuel();
        freeInstructions();
        holding();
        stopping();
        control();
        branchesWithValues();
        traps();
        deepCalls();
        roomOfValues();
        elementCalls();
        hostCalls();
        resultsAndTrapsStay();
        localsAndVariables();
        Kit.close();
    }

    private static int instanceOf(StackHost x, byte[] type, Object... code) {
        return Kit.instance(x, Kit.single(type, Kit.body(code)));
    }

    /** What a function without arguments gives. */
    private static void gives(String what, int type, long due, Object... code) {
        StackHost x = new StackHost();
        int made = instanceOf(x, Kit.type(Kit.of(), type), code);
        Kit.same(what + ", run", Kit.callOf(x, made, 0), 0);
        Kit.same(what, x.result(), due);
        Kit.same(what + ", calls", x.calls(), 0);
        Kit.same(what + ", wrong", x.wrong(), 0);
    }

    private static void pushing() {
        StackHost x = new StackHost();
        for (int k = 1; k <= 1000; k++) {
            Kit.same("push", x.push(k), k);
        }
        Kit.illegalState("push of the 1001st", () -> x.push(0));
        int[] thousand = new int[1000];
        java.util.Arrays.fill(thousand, I);
        byte[] code = Kit.join(0x20, Kit.count(999), 0x20, 0, 0x6B);
        int made = Kit.instance(x, Kit.single(Kit.type(thousand, I), Kit.body(code)));
        x.invoke(made, 0);
        Kit.same("push after invoke", x.push(0), 1);
        Kit.same("run", x.run(10), 0);
        Kit.same("the last less the first", x.result(), 999);
        Kit.same("push", x.push(0), 2);
    }

    private static void invoking() {
        StackHost x = new StackHost();
        int made = Kit.instance(x, Kit.module(Kit.sectionOf(1, Kit.type(Kit.of(I, L, F, D), L)), 3, 2, 1, 0, 5, 3, 1, 0, 0,
                Kit.sectionOf(7, Kit.export("f", 0, 0), Kit.export("m", 2, 0)),
                Kit.sectionOf(10, Kit.body(0x20, 0, 0xAD, 0x20, 1, 0x7C, 0x20, 2, 0xBC, 0xAD, 0x7C, 0x20, 3, 0xBD, 0x7C))));
        Kit.outside("no such instance", () -> x.invoke(1, 0));
        Kit.outside("no such instance", () -> x.invoke(-1, 0));
        Kit.outside("no such export", () -> x.invoke(made, 2));
        Kit.outside("no such export", () -> x.invoke(made, -1));
        Kit.illegalArgument("no function", () -> x.invoke(made, 1));
        Kit.illegalArgument("no arguments", () -> x.invoke(made, 0));
        x.push(-1);
        x.push(1);
        x.push(-1);
        Kit.illegalArgument("too few", () -> x.invoke(made, 0));
        x.push(-1);
        x.invoke(made, 0);
        Kit.same("calls before a run", x.calls(), 0);
        Kit.outside("no such export, under way", () -> x.invoke(made, 2));
        Kit.illegalArgument("no function, under way", () -> x.invoke(made, 1));
        for (int k = 0; k < 4; k++) {
            x.push(0);
        }
        Kit.illegalState("under way", () -> x.invoke(made, 0));
        Kit.same("arguments are as they were", x.push(5), 5);
        Kit.illegalState("instantiate, under way", () -> x.instantiate(0));
        Kit.outside("instantiate of none, under way", () -> x.instantiate(1));
        Kit.same("run", x.run(100), 0);
        Kit.same("the lowest 32 bits of I and F, all of L and D", x.result(), 0xFFFFFFFFL + 1 + 0xFFFFFFFFL - 1);
        Kit.illegalArgument("too many", () -> x.invoke(made, 0));
    }

    private static void fuel() {
        StackHost x = new StackHost();
        int made = instanceOf(x, Kit.type(Kit.of(), I), Kit.i32(1), Kit.i32(2), 0x6A);
        Kit.illegalState("nothing under way", () -> x.run(0));
        Kit.illegalArgument("fuel below 0, nothing under way", () -> x.run(-1));
        Kit.illegalArgument("fuel above, nothing under way", () -> x.run(1000001));
        x.invoke(made, 0);
        Kit.illegalArgument("fuel below 0", () -> x.run(-1));
        Kit.illegalArgument("fuel above", () -> x.run(1000001));
        Kit.same("run(0)", x.run(0), 2);
        Kit.same("calls", x.calls(), 1);
        Kit.same("run(2)", x.run(2), 2);
        Kit.same("run(0)", x.run(0), 2);
        Kit.same("run(1)", x.run(1), 0);
        Kit.same("result", x.result(), 3);
        Kit.same("calls", x.calls(), 0);
        Kit.illegalState("it has ended", () -> x.run(1));
        for (int n = 0; n <= 5; n++) {
            x.invoke(made, 0);
            Kit.same("run(" + n + ")", x.run(n), n < 3 ? 2 : 0);
            x.stop();
        }
        x.invoke(made, 0);
        Kit.same("run(1000000)", x.run(1000000), 0);
    }

    private static void freeInstructions() {
        StackHost x = new StackHost();
        int made = instanceOf(x, Kit.type(Kit.of()), 1, 2, 64, 3, 64, 1, 11, 11, 1);
        x.invoke(made, 0);
        Kit.same("nothing but free ones", x.run(0), 0);
        Kit.same("no result", x.result(), 0);
        // 0x04 needs fuel, 0x05 and the end do not.
        int other = instanceOf(x, Kit.type(Kit.of(I)), 0x20, 0, 4, 64, 1, 5, 1, 11);
        for (int a = 0; a < 2; a++) {
            for (int n = 0; n < 4; n++) {
                x.push(a);
                x.invoke(other, 0);
                Kit.same("run(" + n + ")", x.run(n), n < 2 ? 2 : 0);
                x.stop();
            }
        }
        // What is free at the end of calls is done before a run is held.
        int calling = Kit.instance(x, Kit.module(Kit.sectionOf(1, Kit.type(Kit.of())), 3, 3, 2, 0, 0,
                Kit.sectionOf(7, Kit.export("f", 0, 0)), Kit.sectionOf(10, Kit.body(0x10, 1, 1, 1), Kit.body(1, 1))));
        x.invoke(calling, 0);
        Kit.same("run(0)", x.run(0), 2);
        Kit.same("calls", x.calls(), 1);
        Kit.same("run(1)", x.run(1), 0);
        // Each of these is a step.
        byte[][] steps = {Kit.bytes(0x0C, 0), Kit.bytes(0x0F), Kit.join(Kit.i32(1), 0x1A), Kit.join(Kit.i32(0), 0x0D, 0),
            Kit.join(Kit.i32(0), 0x0E, 0, 0), Kit.join(Kit.i32(0), 4, 64, 11)};
        int[] due = {1, 1, 2, 2, 2, 2};
        for (int k = 0; k < steps.length; k++) {
            int stepping = instanceOf(x, Kit.type(Kit.of()), steps[k]);
            x.invoke(stepping, 0);
            Kit.same("one less than it needs, " + k, x.run(due[k] - 1), 2);
            Kit.same("one more, " + k, x.run(1), 0);
        }
    }

    private static void holding() {
        // Counts down from its argument, seven steps a turn; the result is the same however it is held.
        StackHost x = new StackHost();
        int made = Kit.instance(x, Kit.single(Kit.type(Kit.of(I), I), Kit.bodyWith(1, I, 3, 64, 0x20, 0, 0x20, 1, 0x6A,
                0x21, 1, 0x20, 0, 0x41, 1, 0x6B, 0x22, 0, 0x0D, 0, 11, 0x20, 1)));
        for (int fuel = 1; fuel < 40; fuel++) {
            x.push(10);
            x.invoke(made, 0);
            int runs = 0;
            int how = 2;
            while (how == 2 && runs < 1000) {
                how = x.run(fuel);
                runs++;
            }
            Kit.same("run", how, 0);
            Kit.same("result with fuel " + fuel, x.result(), 55);
            Kit.same("runs with fuel " + fuel, runs, (91 + fuel - 1) / fuel);
        }
        x.push(0x7FFFFFFF);
        x.invoke(made, 0);
        Kit.same("run(1000000)", x.run(1000000), 2);
        Kit.same("calls", x.calls(), 1);
        Kit.same("run(1000000)", x.run(1000000), 2);
        Kit.same("stop", x.stop(), 1);
    }

    private static void stopping() {
        StackHost x = new StackHost();
        int made = Kit.instance(x, Kit.module(Kit.sectionOf(1, Kit.type(Kit.of())), 3, 4, 3, 0, 0, 0,
                Kit.sectionOf(7, Kit.export("f", 0, 0)),
                Kit.sectionOf(10, Kit.body(0x10, 1), Kit.body(0x10, 2), Kit.body(0, 0))));
        Kit.same("stop, nothing under way", x.stop(), 0);
        x.invoke(made, 0);
        Kit.same("stop before a run", x.stop(), 0);
        Kit.illegalState("run", () -> x.run(1));
        x.invoke(made, 0);
        x.run(2);
        Kit.same("calls", x.calls(), 3);
        Kit.same("stop", x.stop(), 3);
        Kit.same("calls", x.calls(), 0);
        Kit.same("stop", x.stop(), 0);
        Kit.illegalState("run", () -> x.run(1));
        Kit.same("trap(0)", x.trap(0), 0);
        x.invoke(made, 0);
        Kit.same("run from the start", x.run(0), 2);
        Kit.same("calls", x.calls(), 1);
        Kit.same("run", x.run(3), 1);
        Kit.same("calls", x.calls(), 0);
        Kit.same("stop", x.stop(), 0);
        Kit.same("trap(0) stays", x.trap(0), 1);
    }

    private static void control() {
        gives("0x02 falls through", I, 5, 2, I, Kit.i32(5), 11);
        gives("0x0C leaves", I, 7, 2, I, Kit.i32(7), 0x0C, 0, Kit.i32(9), 11);
        gives("0x0C leaves two", I, 7, 2, I, 2, I, Kit.i32(7), 0x0C, 1, 11, 0x1A, Kit.i32(8), 11);
        gives("0x0C to the body", I, 7, 2, I, Kit.i32(7), 0x0C, 1, 11, 0x1A, Kit.i32(8));
        gives("0x0F", I, 7, 2, 64, 3, 64, Kit.i32(7), 0x0F, 11, 11, Kit.i32(8));
        gives("0x0D taken", I, 1, 2, I, Kit.i32(1), Kit.i32(5), 0x0D, 0, 0x1A, Kit.i32(2), 11);
        gives("0x0D not taken", I, 2, 2, I, Kit.i32(1), Kit.i32(0), 0x0D, 0, 0x1A, Kit.i32(2), 11);
        gives("0x04 with another", I, 1, Kit.i32(-1), 4, I, Kit.i32(1), 5, Kit.i32(2), 11);
        gives("0x04 with 0", I, 2, Kit.i32(0), 4, I, Kit.i32(1), 5, Kit.i32(2), 11);
        gives("0x04 without 0x05, 0", I, 3, Kit.i32(0), 4, 64, 0, 11, Kit.i32(3));
        gives("0x04 without 0x05, 1", I, 4, Kit.i32(1), 4, 64, Kit.i32(4), 0x0F, 11, Kit.i32(3));
        gives("0x0C out of 0x04", I, 6, Kit.i32(1), 4, I, Kit.i32(6), 0x0C, 0, 5, Kit.i32(2), 11);
        gives("0x0C out of 0x05", I, 6, Kit.i32(0), 4, I, Kit.i32(2), 5, Kit.i32(6), 0x0C, 0, 11);
        gives("0x0C out of 0x02 in 0x04 with 0x05", I, 6, Kit.i32(1), 4, I, 2, 64, Kit.i32(6), 0x0C, 1, 11, Kit.i32(1), 5,
                Kit.i32(2), 11);
        gives("0x04 in 0x05", I, 5, Kit.i32(0), 4, I, Kit.i32(1), 5, Kit.i32(0), 4, I, Kit.i32(4), 5, Kit.i32(5), 11, 11);
        gives("0x1B with another than 0", I, 1, Kit.i32(1), Kit.i32(2), Kit.i32(-5), 0x1B);
        gives("0x1B with 0", I, 2, Kit.i32(1), Kit.i32(2), Kit.i32(0), 0x1B);
        gives("0x1B of D", D, Double.doubleToRawLongBits(2), Kit.f64(1), Kit.f64(2), Kit.i32(0), 0x1B);
        gives("constants I", I, 0xFFFFFFFFL, Kit.i32(-1));
        gives("constants L", L, 0x123456789ABCDEFL, Kit.i64(0x123456789ABCDEFL));
        gives("constants L, short", L, -1, Kit.i64(-1));
        gives("constants F", F, 0x80000000L, Kit.f32(-0f));
        gives("constants D", D, 0x7FF0000000000001L, Kit.join(0x44, Kit.plain(0x7FF0000000000001L, 8)));
        byte[] among = Kit.join(2, 64, 2, 64, 2, 64, 0x20, 0, 0x0E, 2, 0, 1, 2, 11, Kit.i32(10), 0x0F, 11, Kit.i32(11),
                0x0F, 11, Kit.i32(12));
        StackHost x = new StackHost();
        int made = instanceOf(x, Kit.type(Kit.of(I), I), among);
        long[] given = {0, 1, 2, 3, 100, 0xFFFFFFFFL, 0x80000000L};
        long[] due = {10, 11, 12, 12, 12, 12, 12};
        for (int k = 0; k < given.length; k++) {
            Kit.callOf(x, made, 0, given[k]);
            Kit.same("0x0E of " + given[k], x.result(), due[k]);
        }
        // Labels that are written with several bytes.
        int wide = instanceOf(x, Kit.type(Kit.of(I), I), 2, I, 2, I, Kit.i32(3), 0x20, 0, 0x0E, Kit.bytes(0x82, 0),
                Kit.bytes(0x80, 0x80, 0), 1, Kit.bytes(0x81, 0), 11, Kit.i32(10), 0x6A, 11);
        long[] wideDue = {13, 3, 3};
        for (int k = 0; k < 3; k++) {
            Kit.callOf(x, wide, 0, k);
            Kit.same("0x0E with long labels, of " + k, x.result(), wideDue[k]);
        }
    }

    private static void branchesWithValues() {
        gives("what is below the height stays", I, 103, Kit.i32(100), 2, I, Kit.i32(1), Kit.i32(2), Kit.i32(3), 0x0C, 0, 11,
                0x6A);
        gives("0x0D drops what is between", I, 103, Kit.i32(100), 2, I, Kit.i32(1), Kit.i32(3), Kit.i32(1), 0x0D, 0, 0x6A,
                11, 0x6A);
        gives("0x0C without a value drops all above", I, 100, Kit.i32(100), 2, 64, Kit.i32(1), Kit.i32(2), 0x0C, 0, 11);
        gives("the body's label takes its value alone", I, 3, Kit.i32(1), Kit.i32(2), 2, I, Kit.i32(3), 0x0C, 1, 11, 0x6A,
                0x6A);
        gives("0x0F takes its value alone", L, 3, Kit.i32(1), Kit.i64(2), Kit.i64(3), 0x0F);
        // A loop that is branched to with operands above its height, which go.
        StackHost x = new StackHost();
        int made = Kit.instance(x, Kit.single(Kit.type(Kit.of(I), I), Kit.bodyWith(1, I, Kit.i32(1000), 3, I, 0x20, 1,
                Kit.i32(1), 0x6A, 0x21, 1, Kit.i32(7), Kit.i32(8), 0x20, 1, 0x20, 0, 0x49, 0x0D, 0, 0x6A, 11, 0x6A, 0x20, 1,
                0x6A)));
        Kit.same("run", Kit.callOf(x, made, 0, 50), 0);
        Kit.same("0x03 with operands", x.result(), 1065);
        // Fifty turns take thirteen steps at most each, so nothing can have piled up beyond the room.
        Kit.same("room", x.room(0, 0), 5);
    }

    private static void trapIs(String what, StackHost x, int code, int instance, int function, int place) {
        Kit.same(what + ", trap(0)", x.trap(0), code);
        Kit.same(what + ", trap(1)", x.trap(1), instance);
        Kit.same(what + ", trap(2)", x.trap(2), function);
        Kit.same(what + ", trap(3)", x.trap(3), place);
        Kit.same(what + ", calls()", x.calls(), 0);
    }

    private static void traps() {
        StackHost x = new StackHost();
        byte[] module = Kit.single(Kit.type(Kit.of()), Kit.body(1, 2, 64, 0, 11));
        int made = Kit.instance(x, module);
        Kit.same("run", Kit.callOf(x, made, 0), 1);
        trapIs("0x00", x, 1, 0, 0, module.length - 3);
        Kit.illegalState("run", () -> x.run(1));
        x.invoke(made, 0);
        Kit.same("a trap needs fuel, too", x.run(0), 2);
        Kit.same("a trap needs fuel, too", x.run(1), 1);
        Kit.outside("trap(4)", () -> x.trap(4));
        Kit.outside("trap(-1)", () -> x.trap(-1));

        // A trap two calls down, in another instance, behind an imported function.
        StackHost y = new StackHost();
        byte[] inner = Kit.module(Kit.sectionOf(1, Kit.type(Kit.of(I), I)), 3, 3, 2, 0, 0,
                Kit.sectionOf(7, Kit.export("d", 0, 1)),
                Kit.sectionOf(10, Kit.body(Kit.i32(1)), Kit.body(Kit.i32(100), 0x20, 0, 0x6D)));
        int first = Kit.instance(y, Kit.module());
        int second = Kit.instance(y, inner);
        Kit.name(y, second, "in");
        byte[] outer = Kit.module(Kit.sectionOf(1, Kit.type(Kit.of(I), I)),
                Kit.sectionOf(2, Kit.join(Kit.text("in"), Kit.text("d"), 0, 0)), 3, 2, 1, 0,
                Kit.sectionOf(7, Kit.export("again", 0, 0), Kit.export("f", 0, 1)),
                Kit.sectionOf(10, Kit.body(0x20, 0, 0x10, 0)));
        int third = Kit.instance(y, outer);
        Kit.same("three instances", first + second + third, 3);
        Kit.same("run", Kit.callOf(y, third, 1, 7), 0);
        Kit.same("100 / 7", y.result(), 14);
        Kit.same("run", Kit.callOf(y, third, 1, 0), 1);
        trapIs("/ 0 in another instance", y, 3, second, 1, inner.length - 2);
        Kit.same("run", Kit.callOf(y, third, 0, 0), 1);
        trapIs("/ 0, called through an import", y, 3, second, 1, inner.length - 2);
        Kit.same("result stays", y.result(), 14);
        StackHost z = new StackHost();
        int whole = instanceOf(z, Kit.type(Kit.of(D), I), 0x20, 0, 0xAA);
        Kit.same("run", Kit.callOf(z, whole, 0, Double.doubleToRawLongBits(Double.NaN)), 1);
        Kit.same("trap(0)", z.trap(0), 5);
        Kit.same("run", Kit.callOf(z, whole, 0, Double.doubleToRawLongBits(2147483648.0)), 1);
        Kit.same("trap(0)", z.trap(0), 4);
        Kit.same("run", Kit.callOf(z, whole, 0, Double.doubleToRawLongBits(-2147483648.9)), 0);
        Kit.same("result", z.result(), 0x80000000L);
    }

    private static void deepCalls() {
        StackHost x = new StackHost();
        // Calls itself n times, then answers how often.
        byte[] module = Kit.single(Kit.type(Kit.of(I), I), Kit.body(0x20, 0, 0x45, 4, I, Kit.i32(0), 5, 0x20, 0, Kit.i32(1),
                0x6B, 0x10, 0, Kit.i32(1), 0x6A, 11));
        int made = Kit.instance(x, module);
        Kit.same("200 calls", Kit.callOf(x, made, 0, 199), 0);
        Kit.same("result", x.result(), 199);
        Kit.same("201 calls", Kit.callOf(x, made, 0, 200), 1);
        trapIs("201 calls", x, 9, 0, 0, module.length - 7);
        x.push(150);
        x.invoke(made, 0);
        for (int k = 1; k <= 100; k++) {
            // Seven steps up to the call of the next one.
            x.run(7);
            Kit.same("calls", x.calls(), k + 1);
        }
        Kit.same("run", x.run(1000000), 0);
        Kit.same("result", x.result(), 150);
    }

    /** So many times a constant, then as many drops. */
    private static byte[] tall(int n) {
        byte[] out = new byte[3 * n];
        for (int k = 0; k < n; k++) {
            out[2 * k] = 0x41;
            out[2 * n + k] = 0x1A;
        }
        return out;
    }

    private static void roomOfValues() {
        StackHost x = new StackHost();
        int fits = instanceOf(x, Kit.type(Kit.of()), tall(16384));
        Kit.same("a room of 16384", Kit.callOf(x, fits, 0), 0);
        int beyond = instanceOf(x, Kit.type(Kit.of()), tall(16385));
        x.invoke(beyond, 0);
        Kit.same("a room of 16385", x.run(0), 1);
        trapIs("a room of 16385", x, 9, -1, -1, -1);
        int locals = Kit.instance(x, Kit.single(Kit.type(Kit.of(I)), Kit.bodyWith(1000, L, tall(15384))));
        Kit.same("a parameter, 1000 locals and 15384", Kit.callOf(x, locals, 0, 1), 1);
        int fewer = Kit.instance(x, Kit.single(Kit.type(Kit.of(I)), Kit.bodyWith(1000, L, tall(15383))));
        Kit.same("a parameter, 1000 locals and 15383", Kit.callOf(x, fewer, 0, 1), 0);

        // f puts n operands and calls g with two of them; g has one local of its own and a room of 5.
        StackHost y = new StackHost();
        for (int n = 16374; n <= 16380; n++) {
            byte[] up = new byte[2 * n];
            byte[] down = new byte[n - 2];
            for (int k = 0; k < n; k++) {
                up[2 * k] = 0x41;
            }
            java.util.Arrays.fill(down, (byte) 0x1A);
            int made = Kit.instance(y, Kit.module(Kit.sectionOf(1, Kit.type(Kit.of()), Kit.type(Kit.of(I, I))), 3, 3, 2, 0,
                    1, Kit.sectionOf(7, Kit.export("f", 0, 0)),
                    Kit.sectionOf(10, Kit.body(up, 0x10, 1, down), Kit.bodyWith(1, I, tall(5)))));
            // Without the two that are taken, n - 2; two parameters, one local, and 5: n + 6 in all.
            Kit.same("n = " + n, Kit.callOf(y, made, 0), n + 6 <= 16384 ? 0 : 1);
            if (n + 6 > 16384) {
                Kit.same("trap(0)", y.trap(0), 9);
                Kit.same("trap(2)", y.trap(2), 0);
            }
        }
        // A call that has ended leaves its room.
        StackHost z = new StackHost();
        int twice = Kit.instance(z, Kit.module(Kit.sectionOf(1, Kit.type(Kit.of())), 3, 3, 2, 0, 0,
                Kit.sectionOf(7, Kit.export("f", 0, 0)),
                Kit.sectionOf(10, Kit.body(0x10, 1, 0x10, 1, 0x10, 1), Kit.body(tall(9000)))));
        Kit.same("9000 three times", Kit.callOf(z, twice, 0), 0);
    }

    private static void elementCalls() {
        StackHost x = new StackHost();
        byte[] types = Kit.sectionOf(1, Kit.type(Kit.of(I), I), Kit.type(Kit.of(I), L), Kit.type(Kit.of(I), I),
                Kit.type(Kit.of(L), I), Kit.type(Kit.of(I, I), I), Kit.type(Kit.of(I)));
        byte[] module = Kit.module(types, Kit.section(3, 4, 0, 1, 0, 5), Kit.section(4, 1, 112, 0, 5),
                Kit.sectionOf(7, Kit.export("f", 0, 2)), Kit.section(9, 1, 0, Kit.i32(0), 11, 3, 0, 1, 3),
                Kit.sectionOf(10, Kit.body(0x20, 0, Kit.i32(1), 0x6A), Kit.body(Kit.i64(5)),
                        Kit.body(Kit.i32(41), 0x20, 0, 0x11, 2, 0), Kit.body()));
        int made = Kit.instance(x, module);
        int place = module.length - 3 - 1 - 4;
        Kit.same("element 0", Kit.callOf(x, made, 0, 0), 0);
        Kit.same("41 + 1", x.result(), 42);
        Kit.same("element 1", Kit.callOf(x, made, 0, 1), 1);
        trapIs("another result", x, 8, 0, 2, place + 1);
        Kit.same("element 2", Kit.callOf(x, made, 0, 2), 1);
        trapIs("no result", x, 8, 0, 2, place + 1);
        Kit.same("element 3", Kit.callOf(x, made, 0, 3), 1);
        trapIs("nothing in it", x, 7, 0, 2, place + 1);
        Kit.same("element 5", Kit.callOf(x, made, 0, 5), 1);
        trapIs("no element", x, 6, 0, 2, place + 1);
        Kit.same("element -1", Kit.callOf(x, made, 0, -1), 1);
        trapIs("no element", x, 6, 0, 2, place + 1);
    }

    private static void hostCalls() {
        StackHost x = new StackHost();
        int made = Kit.instance(x, Kit.module(
                Kit.sectionOf(1, Kit.type(Kit.of(I)), Kit.type(Kit.of(L)), Kit.type(Kit.of(F)), Kit.type(Kit.of(D)),
                        Kit.type(Kit.of())),
                Kit.sectionOf(2, Kit.join(Kit.text("host"), Kit.text("i"), 0, 0),
                        Kit.join(Kit.text("host"), Kit.text("l"), 0, 1), Kit.join(Kit.text("host"), Kit.text("f"), 0, 2),
                        Kit.join(Kit.text("host"), Kit.text("d"), 0, 3)),
                Kit.section(3, 1, 4),
                Kit.sectionOf(7, Kit.export("i", 0, 0), Kit.export("d", 0, 3), Kit.export("f", 0, 4)),
                Kit.sectionOf(10, Kit.body(Kit.i32(-2), 0x10, 0, Kit.i64(-3), 0x10, 1, Kit.f32(-1), 0x10, 2, Kit.f64(-1),
                        0x10, 3))));
        x.push(-1);
        x.invoke(made, 0);
        Kit.same("calls", x.calls(), 0);
        Kit.same("a function of the host needs no fuel when it is invoked", x.run(0), 0);
        Kit.same("outs", x.outs(), 1);
        Kit.same("out(0)", x.out(0), 0xFFFFFFFFL);
        Kit.same("result", x.result(), 0);
        x.invoke(made, 2);
        Kit.same("a call of the host's is a step", x.run(1), 2);
        Kit.same("outs", x.outs(), 1);
        Kit.same("run", x.run(1), 2);
        Kit.same("outs", x.outs(), 2);
        Kit.same("calls", x.calls(), 1);
        Kit.same("run", x.run(6), 0);
        Kit.same("out(1)", x.out(1), 0xFFFFFFFEL);
        Kit.same("out(2)", x.out(2), -3);
        Kit.same("out(3)", x.out(3), 0xBF800000L);
        Kit.same("out(4)", x.out(4), Double.doubleToRawLongBits(-1));
        Kit.outside("out(5)", () -> x.out(5));
        Kit.outside("out(-1)", () -> x.out(-1));
        Kit.same("clear", x.clear(), 5);
        Kit.same("outs", x.outs(), 0);
        Kit.outside("out(0)", () -> x.out(0));
        Kit.same("clear", x.clear(), 0);

        // OUT has room for 4096.
        StackHost y = new StackHost();
        byte[] many = Kit.module(Kit.sectionOf(1, Kit.type(Kit.of(I))),
                Kit.sectionOf(2, Kit.join(Kit.text("host"), Kit.text("i"), 0, 0)), 3, 2, 1, 0,
                Kit.sectionOf(7, Kit.export("i", 0, 0), Kit.export("f", 0, 1)),
                Kit.sectionOf(10, Kit.body(3, 64, 0x20, 0, 0x10, 0, 0x20, 0, Kit.i32(1), 0x6B, 0x22, 0, 0x0D, 0, 11)));
        int counting = Kit.instance(y, many);
        Kit.same("run", Kit.callOf(y, counting, 1, 4096), 0);
        Kit.same("outs", y.outs(), 4096);
        Kit.same("out(0)", y.out(0), 4096);
        Kit.same("out(4095)", y.out(4095), 1);
        Kit.same("run", Kit.callOf(y, counting, 1, 1), 1);
        trapIs("OUT is full", y, 10, 0, 1, many.length - 13);
        Kit.same("run", Kit.callOf(y, counting, 0, 1), 1);
        trapIs("OUT is full, and no call is open", y, 10, -1, -1, -1);
        Kit.same("outs", y.outs(), 4096);
        Kit.same("clear", y.clear(), 4096);
        Kit.same("run", Kit.callOf(y, counting, 0, 9), 0);
        Kit.same("out(0)", y.out(0), 9);
    }

    private static void resultsAndTrapsStay() {
        StackHost x = new StackHost();
        int made = Kit.instance(x, Kit.module(Kit.sectionOf(1, Kit.type(Kit.of(), I), Kit.type(Kit.of())), 3, 4, 3, 0, 1, 1,
                Kit.sectionOf(7, Kit.export("a", 0, 0), Kit.export("b", 0, 1), Kit.export("c", 0, 2)),
                Kit.sectionOf(10, Kit.body(Kit.i32(-7)), Kit.body(), Kit.body(0))));
        Kit.callOf(x, made, 0);
        Kit.same("result without a sign", x.result(), 0xFFFFFFF9L);
        Kit.callOf(x, made, 2);
        Kit.same("a trap changes no result", x.result(), 0xFFFFFFF9L);
        x.invoke(made, 1);
        Kit.same("invoke changes no result", x.result(), 0xFFFFFFF9L);
        x.stop();
        Kit.same("stop changes no result", x.result(), 0xFFFFFFF9L);
        Kit.same("trap(2)", x.trap(2), 2);
        Kit.callOf(x, made, 1);
        Kit.same("the result of one that has none", x.result(), 0);
        Kit.same("trap(0) stays", x.trap(0), 1);
        Kit.same("trap(2) stays", x.trap(2), 2);
    }

    private static void localsAndVariables() {
        StackHost x = new StackHost();
        int made = Kit.instance(x, Kit.module(Kit.sectionOf(1, Kit.type(Kit.of(I), I), Kit.type(Kit.of())), 3, 3, 2, 0, 1,
                Kit.section(6, 2, I, 1, Kit.i32(5), 11, L, 0, Kit.i64(-9), 11),
                Kit.sectionOf(7, Kit.export("a", 0, 0), Kit.export("b", 0, 1)),
                Kit.sectionOf(10, Kit.bodyWith(2, I, 0x20, 2, 0x20, 1, 0x72, 0x20, 0, 0x22, 1, 0x6A, 0x21, 2, 0x20, 1, 0x20,
                        2, 0x6A, 0x23, 0, 0x6A, 0x24, 0, 0x23, 0), Kit.body(Kit.i32(77), 0x24, 0, 0))));
        Kit.same("variable", x.variable(made, 0), 5);
        Kit.callOf(x, made, 0, 10);
        Kit.same("locals begin with 0", x.result(), 25);
        Kit.same("variable", x.variable(made, 0), 25);
        Kit.callOf(x, made, 0, 10);
        Kit.same("locals begin with 0 again", x.result(), 45);
        Kit.same("run", Kit.callOf(x, made, 1), 1);
        Kit.same("what was set before a trap stays", x.variable(made, 0), 77);
        Kit.same("variable(1)", x.variable(made, 1), -9);
        Kit.outside("variable(2)", () -> x.variable(made, 2));
        Kit.outside("variable(-1)", () -> x.variable(made, -1));
        Kit.outside("no instance", () -> x.variable(1, 0));
        Kit.outside("no instance", () -> x.variable(-1, 0));
    }
}
