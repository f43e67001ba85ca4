/** Promises 1 to 3: a new object, feed and end. */
public final class TapeTest {
    public static void main(String[] args) {
        aNewObject();
        feeding();
        ending();
        theLimit();
        Kit.close();
    }

    private static void aNewObject() {
        StackHost x = new StackHost();
        Kit.same("NONE", StackHost.NONE, -1);
        Kit.same("calls()", x.calls(), 0);
        Kit.same("outs()", x.outs(), 0);
        Kit.same("clear()", x.clear(), 0);
        Kit.same("stop()", x.stop(), 0);
        Kit.same("wrong()", x.wrong(), 0);
        Kit.same("result()", x.result(), 0);
        Kit.same("trap(0)", x.trap(0), 0);
        Kit.same("trap(1)", x.trap(1), -1);
        Kit.same("trap(2)", x.trap(2), -1);
        Kit.same("trap(3)", x.trap(3), -1);
        Kit.same("fault(0)", x.fault(0), 0);
        Kit.same("fault(1)", x.fault(1), 0);
        Kit.outside("module(0, 0)", () -> x.module(0, 0));
        Kit.outside("room(0, 0)", () -> x.room(0, 0));
        Kit.outside("instantiate(0)", () -> x.instantiate(0));
        Kit.outside("name(0)", () -> x.name(0));
        Kit.outside("find(0)", () -> x.find(0));
        Kit.outside("pages(0)", () -> x.pages(0));
        Kit.outside("peek(0, 0)", () -> x.peek(0, 0));
        Kit.outside("poke(0, 0, 0)", () -> x.poke(0, 0, 0));
        Kit.outside("variable(0, 0)", () -> x.variable(0, 0));
        Kit.outside("element(0, 0)", () -> x.element(0, 0));
        Kit.outside("exported(0, 0, 0)", () -> x.exported(0, 0, 0));
        Kit.outside("invoke(0, 0)", () -> x.invoke(0, 0));
        Kit.outside("out(0)", () -> x.out(0));
        Kit.illegalState("run(0)", () -> x.run(0));
        Kit.illegalArgument("end(1)", () -> x.end(1));
        Kit.same("push(7)", x.push(7), 1);
        Kit.same("load() of an empty tape", x.load(), -1);
        Kit.same("fault(0)", x.fault(0), 1);
        Kit.same("fault(1)", x.fault(1), 0);
    }

    private static void feeding() {
        StackHost x = new StackHost();
        // The highest byte of each number comes first: the header of a module, then an empty section of its own.
        Kit.same("feed", x.feed(0x0061736D, 0x01000000, 0x00020141, 0x00020142, 0xFFFFFFFF), 20);
        x.end(16);
        Kit.same("feed", x.feed(0x00020143, 0, 0, 0, 0), 36);
        x.end(20);
        Kit.same("load()", x.load(), 0);
        // A fault's place shows that a byte with the highest bit is read as it is.
        x.feed(0x0061736D, 0x01000000, 0x80000000, 0, 0);
        x.end(9);
        Kit.same("load()", x.load(), -1);
        Kit.same("fault(0)", x.fault(0), 5);
        Kit.same("fault(1)", x.fault(1), 8);
        Kit.same("feed after load", x.feed(0, 0, 0, 0, 0), 20);
    }

    private static void ending() {
        StackHost x = new StackHost();
        x.feed(1, 2, 3, 4, 5);
        Kit.illegalArgument("end(-1)", () -> x.end(-1));
        Kit.illegalArgument("end(21)", () -> x.end(21));
        Kit.illegalArgument("end(least)", () -> x.end(Integer.MIN_VALUE));
        x.end(20);
        Kit.same("feed", x.feed(1, 2, 3, 4, 5), 40);
        x.end(7);
        Kit.illegalArgument("end(8)", () -> x.end(8));
        x.end(7);
        x.end(0);
        Kit.same("feed", x.feed(1, 2, 3, 4, 5), 20);
    }

    private static void theLimit() {
        StackHost x = new StackHost();
        int had = 0;
        for (int k = 0; k < 3276; k++) {
            had = x.feed(k, k, k, k, k);
        }
        Kit.same("feed", had, 65520);
        Kit.illegalState("feed", () -> x.feed(0, 0, 0, 0, 0));
        x.end(65517);
        Kit.illegalState("feed", () -> x.feed(0, 0, 0, 0, 0));
        x.end(65516);
        Kit.same("feed", x.feed(0, 0, 0, 0, 0), 65536);
        Kit.illegalState("feed", () -> x.feed(0, 0, 0, 0, 0));
        x.end(65536);
        Kit.same("load()", x.load(), -1);
        Kit.same("feed", x.feed(0, 0, 0, 0, 0), 20);
    }
}
