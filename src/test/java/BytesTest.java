import java.util.Arrays;

/** Part 1 of the terms, sentence by sentence: the tape, the ends of what is read, counts, numbers, names and rows. */
public final class BytesTest {
    private static final byte[] VOID_TYPE = Kit.type(Kit.of());

    private static StackHost reader = new StackHost();
    private static int loaded = 0;

    public static void main(String[] args) {
        theTapeIsEmptyAtFirst();
        theTapeIsFull();
        whatReadsTheTapeEmptiesIt();
        placesAreCountedFromZero();
        theEndOfTheTape();
        theEndOfASection();
        theEndOfABody();
        sevenBitsEach();
        theFifthByteOfACount();
        theFifthByteOfAShortNumber();
        theTenthByteOfALongNumber();
        theHighestBitIsRepeated();
        longerThanNeedBe();
        groupsOfOne();
        groupsOfTwo();
        groupsOfThree();
        groupsOfFour();
        secondBytesThatAreNarrower();
        allBytesFirst();
        theFirstGroupThatIsNone();
        rows();
        Kit.close();
    }

    private static void theTapeIsEmptyAtFirst() {
        Kit.sentence("THE TAPE is a row of at most 65536 bytes, empty at first");
        StackHost x = new StackHost();
        Kit.illegalArgument("end(1)", () -> x.end(1));
        x.end(0);
        Kit.same("load()", x.load(), -1);
        Kit.same("fault(0)", x.fault(0), 1);
        Kit.same("fault(1)", x.fault(1), 0);
        Kit.same("feed", x.feed(0, 0, 0, 0, 0), 20);
    }

    /** Feeds as many bytes as a tape can have; the last feed takes back four of what was there, to end just at it. */
    private static void fill(StackHost x, byte[] bytes) {
        Kit.feed(x, Arrays.copyOf(bytes, 65516));
        int[] n = new int[5];
        for (int k = 0; k < 20; k++) {
            n[k / 4] = n[k / 4] << 8 | bytes[65516 + k] & 255;
        }
        Kit.same("feed up to the limit", x.feed(n[0], n[1], n[2], n[3], n[4]), 65536);
    }

    private static void theTapeIsFull() {
        Kit.sentence("THE TAPE is a row of at most 65536 bytes, empty at first");
        byte[] bytes = Kit.module(Kit.section(0, 0, new byte[65522]), 12);
        Kit.same("the length of the module", bytes.length, 65536);
        StackHost x = new StackHost();
        fill(x, bytes);
        Kit.illegalState("feed beyond the limit", () -> x.feed(0, 0, 0, 0, 0));
        Kit.illegalArgument("end(65537)", () -> x.end(65537));
        x.end(65536);
        Kit.same("load()", x.load(), -1);
        Kit.same("the last byte is read, too: fault(0)", x.fault(0), 5);
        Kit.same("the last byte is read, too: fault(1)", x.fault(1), 65535);
        fill(x, Kit.module(Kit.section(0, 0, new byte[65523])));
        Kit.same("load()", x.load(), 0);
    }

    private static void whatReadsTheTapeEmptiesIt() {
        Kit.sentence("a call that reads it says so, and it is empty then");
        StackHost x = new StackHost();
        int made = Kit.instance(x, Kit.single(VOID_TYPE, Kit.body()));
        Kit.same("feed after a load", x.feed(0, 0, 0, 0, 0), 20);
        x.load();
        Kit.same("feed after a load with a fault", x.feed(0, 0, 0, 0, 0), 20);
        x.name(made);
        Kit.same("feed after name", x.feed(0, 0, 0, 0, 0), 20);
        x.find(made);
        Kit.same("feed after find", x.feed(0, 0, 0, 0, 0), 20);
        // No other call reads it.
        x.instantiate(0);
        x.fault(0);
        x.module(0, 0);
        x.room(0, 0);
        x.exported(made, 0, 0);
        x.invoke(made, 0);
        x.run(1);
        x.stop();
        x.clear();
        x.pages(made);
        Kit.same("feed after calls that do not read it", x.feed(0, 0, 0, 0, 0), 40);
    }

    private static void placesAreCountedFromZero() {
        Kit.sentence("PLACES are counted from 0.");
        Kit.faults("the first byte", Kit.bytes(1, 97, 115, 109, 1, 0, 0, 0), 1, 0);
        Kit.faults("the ninth", Kit.module(12), 5, 8);
    }

    private static void theEndOfTheTape() {
        Kit.sentence("where a byte must come and the end is reached, that is FAULT 2 at the end");
        Kit.faults("no size", Kit.module(1), 2, 9);
        Kit.faults("half a size", Kit.module(1, 0x80), 2, 10);
        Kit.faults("four bytes of a size", Kit.module(1, 0x80, 0x80, 0x80, 0x80), 2, 13);
        Kit.faults("no size of the second section", Kit.module(1, 1, 0, 2), 2, 12);
    }

    /** What sections 1 to 11 hold, with all that can be written in them. */
    private static byte[][] contents() {
        byte[] types = Kit.bytes(2, 96, 2, 127, 126, 0, 96, 0, 1, 125);
        byte[] imports = Kit.join(4, Kit.text("ab"), Kit.text("c"), 0, 0x80, 1, Kit.text(""), Kit.text("\u00c3\u00a4"),
                1, 112, 1, 1, 0x82, 0, Kit.text("m"), Kit.text("n"), 2, 0, 5, Kit.text("v"), Kit.text("w"), 3, 124, 1);
        byte[] functions = Kit.bytes(2, 0, 0x81, 0);
        byte[] tables = Kit.bytes(1, 112, 1, 3, 4);
        byte[] memories = Kit.bytes(1, 0, 0x80, 1);
        byte[] variables = Kit.join(4, 127, 0, 0x41, 0x80, 1, 11, 126, 1, 0x42, 0xFF, 0x7F, 11, 125, 0, Kit.f32(1), 11,
                124, 0, Kit.f64(1), 11);
        byte[] exports = Kit.join(2, Kit.text("abc"), 0, 0x81, 0, Kit.text("d"), 3, 0);
        byte[] start = Kit.bytes(0x80, 0x80, 0);
        byte[] elements = Kit.bytes(2, 0, 0x41, 0, 11, 2, 0x80, 0, 1, 0, 0x23, 0, 11, 0);
        byte[] bodies = Kit.join(2, Kit.body(1, 1), Kit.bodyWith(2, 127, 0x41, 0, 0x1A));
        byte[] data = Kit.bytes(1, 0, 0x41, 0, 11, 3, 9, 8, 7);
        return new byte[][] {types, imports, functions, tables, memories, variables, exports, start, elements, bodies,
                data};
    }

    private static void theEndOfASection() {
        Kit.sentence("between a place and an END (of the tape, of a section, of a body)");
        byte[][] contents = contents();
        for (int kind = 1; kind <= 11; kind++) {
            byte[] content = contents[kind - 1];
            for (int cut = 0; cut < content.length; cut++) {
                // Another section behind it, so that the section's end is not the tape's.
                byte[] module = Kit.module(Kit.section(kind, Arrays.copyOf(content, cut)), 0, 3, 0, 0, 0);
                Kit.faults("section " + kind + " cut to " + cut, module, 2, 10 + cut);
            }
        }
        Kit.faults("a name of section 0", Kit.module(0, 0, 0, 1, 0), 2, 10);
        Kit.faults("a name of section 0, cut", Kit.module(0, 2, 2, 65, 0, 1, 0), 2, 12);
    }

    private static void theEndOfABody() {
        Kit.sentence("between a place and an END (of the tape, of a section, of a body)");
        byte[] body = Kit.join(2, 0x81, 0, 127, 1, 126, 2, 64, 3, 127, 4, 64, 5, 0x0C, 0x80, 0, 0x0D, 1, 0x0E, 2, 0,
                0x81, 0, 0, 0x10, 0x80, 0, 0x11, 0x80, 0, 0, 0x20, 0, 0x21, 0, 0x22, 0, 0x23, 0, 0x24, 0, 0x28, 2, 0x80,
                0, 0x3E, 0x80, 0, 0, 0x3F, 0, 0x40, 0, 0x41, 0x80, 0x7F, 0x42, 0x80, 0x7F, Kit.f32(1), Kit.f64(1), 0x45,
                0xBF, 11, 11, 11, 11);
        for (int cut = 0; cut < body.length; cut++) {
            byte[] cutBody = Kit.sized(Arrays.copyOf(body, cut));
            byte[] module = Kit.module(Kit.section(10, 2, cutBody, Kit.body()));
            // The section's head, the count of bodies and the body's size come before it.
            Kit.faults("a body cut to " + cut, module, 2, 12 + cut);
        }
    }

    /** A table's least written in some way; its most tells which number was read. */
    private static void countIs(String what, byte[] written, long due) {
        Kit.valid(what + ", the same most", Kit.module(Kit.section(4, 1, 112, 1, written, Kit.count(due))));
        if (due > 0) {
            Kit.faults(what + ", a most that is one less",
                    Kit.module(Kit.section(4, 1, 112, 1, written, Kit.count(due - 1))), 25, 11);
        }
    }

    private static void sevenBitsEach() {
        Kit.sentence("are bytes of seven bits each, the lowest first; each byte but the last one has 128 more");
        long[] numbers = {0, 1, 127, 128, 129, 255, 256, 16383, 16384, 2097151, 2097152, 268435455L, 268435456L,
                0x7FFFFFFFL, 0x80000000L, 0xFFFFFFFFL};
        for (long number : numbers) {
            countIs("count " + number, Kit.count(number), number);
        }
        countIs("5 and 7 times 128", Kit.bytes(0x85, 7), 5 + 7 * 128);
        for (int shift = 0; shift < 31; shift++) {
            variableIs("short number 1 << " + shift, shortNumber(Kit.signed(1 << shift)), 1L << shift);
        }
        for (int shift = 0; shift < 63; shift++) {
            variableIs("long number 1 << " + shift, longNumber(Kit.signed(1L << shift)), 1L << shift);
        }
    }

    private static void theFifthByteOfACount() {
        Kit.sentence("A count has at most five bytes, the fifth is 0 .. 15");
        for (int fifth = 0; fifth < 256; fifth++) {
            byte[] written = Kit.bytes(0x81, 0x80, 0x80, 0x80, fifth);
            if (fifth <= 15) {
                countIs("a fifth byte of " + fifth, written, 1 + ((long) fifth << 28));
            } else {
                // Else fault 3 at that byte, though there be bytes behind it.
                Kit.faults("a fifth byte of " + fifth, Kit.module(Kit.section(4, 1, 112, 0, written, 0)), 3, 17);
            }
        }
    }

    private static byte[] shortNumber(byte[] number) {
        return Kit.module(Kit.section(6, 1, 127, 0, 0x41, number, 11));
    }

    private static byte[] longNumber(byte[] number) {
        return Kit.module(Kit.section(6, 1, 126, 0, 0x42, number, 11));
    }

    private static void variableIs(String what, byte[] module, long due) {
        StackHost x = new StackHost();
        Kit.same(what, x.variable(Kit.instance(x, module), 0), due);
    }

    /** So many bytes, all but the last one the same. */
    private static byte[] ending(int length, int others, int last) {
        byte[] out = new byte[length];
        Arrays.fill(out, (byte) others);
        out[length - 1] = (byte) last;
        return out;
    }

    private static void theFifthByteOfAShortNumber() {
        Kit.sentence("s32 at most five, the fifth is 0 .. 7 or 120 .. 127");
        for (int fifth = 0; fifth < 256; fifth++) {
            boolean right = fifth <= 7 || fifth >= 120 && fifth <= 127;
            for (int others : new int[] {0x80, 0xFF}) {
                // The number begins at place 14.
                byte[] module = shortNumber(ending(5, others, fifth));
                if (right) {
                    long low = others == 0x80 ? 0 : (1 << 28) - 1;
                    variableIs("a fifth byte of " + fifth, module, low | (fifth & 15L) << 28);
                } else {
                    Kit.faults("a fifth byte of " + fifth, module, 3, 18);
                }
            }
        }
    }

    private static void theTenthByteOfALongNumber() {
        Kit.sentence("s64 at most ten, the tenth is 0 or 127: else fault 3 at that byte");
        for (int tenth = 0; tenth < 256; tenth++) {
            for (int others : new int[] {0x80, 0xFF}) {
                byte[] module = longNumber(ending(10, others, tenth));
                if (tenth == 0 || tenth == 127) {
                    long low = others == 0x80 ? 0 : Long.MAX_VALUE;
                    variableIs("a tenth byte of " + tenth, module, tenth == 0 ? low : low | Long.MIN_VALUE);
                } else {
                    Kit.faults("a tenth byte of " + tenth, module, 3, 23);
                }
            }
        }
    }

    private static void theHighestBitIsRepeated() {
        Kit.sentence("The highest bit of the last byte's seven (if it is not the fifth, or tenth) is repeated "
                + "upwards in s32 and s64.");
        for (int last : new int[] {0, 1, 63, 64, 65, 126, 127}) {
            for (int length = 1; length <= 9; length++) {
                long number = (long) (last << 25 >> 25) << 7 * (length - 1);
                variableIs("long, " + length + " bytes, the last " + last, longNumber(ending(length, 0x80, last)),
                        number);
                if (length <= 4) {
                    variableIs("short, " + length + " bytes, the last " + last, shortNumber(ending(length, 0x80, last)),
                            number & 0xFFFFFFFFL);
                }
            }
        }
    }

    private static void longerThanNeedBe() {
        Kit.sentence("Written longer than need be they are right.");
        for (int length = 1; length <= 5; length++) {
            countIs("0 in " + length, ending(length, 0x80, 0), 0);
            Kit.valid("a size in " + length, Kit.module(1, length == 1 ? Kit.bytes(1) : Kit.join(0x81,
                    ending(length - 1, 0x80, 0)), 0));
            variableIs("short 0 in " + length, shortNumber(ending(length, 0x80, 0)), 0);
            variableIs("short -1 in " + length, shortNumber(ending(length, 0xFF, 127)), 0xFFFFFFFFL);
        }
        for (int length = 1; length <= 10; length++) {
            variableIs("long 0 in " + length, longNumber(ending(length, 0x80, 0)), 0);
            variableIs("long -1 in " + length, longNumber(ending(length, 0xFF, 127)), -1);
            longIsRun(length);
        }
        countIs("5 in three", Kit.bytes(0x85, 0x80, 0), 5);
    }

    /** A number of so many bytes in a body, where it is run. */
    private static void longIsRun(int length) {
        StackHost x = new StackHost();
        int made = Kit.instance(x, Kit.single(Kit.type(Kit.of(), 126), Kit.body(0x42, ending(length, 0xFF, 127))));
        Kit.same("run", Kit.callOf(x, made, 0), 0);
        Kit.same("-1 in " + length + " bytes", x.result(), -1);
        if (length <= 5) {
            int other = Kit.instance(x, Kit.single(Kit.type(Kit.of(), 127), Kit.body(0x41, ending(length, 0xFF, 127))));
            Kit.same("run", Kit.callOf(x, other, 0), 0);
            Kit.same("short -1 in " + length + " bytes", x.result(), 0xFFFFFFFFL);
        }
    }

    /**
     * A name of section 0; its bytes begin at place 11. One host does for many, as what is at fault takes no number.
     */
    private static void nameIs(boolean right, int place, int... name) {
        byte[] module = Kit.module(Kit.section(0, Kit.sized(Kit.bytes(name))));
        if (loaded == 60) {
            reader = new StackHost();
            loaded = 0;
        }
        int got = Kit.load(reader, module);
        loaded = Math.max(loaded, got + 1);
        String what = "name " + Arrays.toString(name);
        Kit.same(what + ", load", got >= 0 ? 1 : 0, right ? 1 : 0);
        Kit.same(what + ", fault", reader.fault(0), right ? 0 : 4);
        Kit.same(what + ", place", reader.fault(1), right ? 0 : 11 + place);
    }

    private static boolean follows(int b) {
        return b >= 128 && b <= 191;
    }

    private static void groupsOfOne() {
        Kit.sentence("which are a row of GROUPS: a byte 0 .. 127");
        for (int b = 0; b < 256; b++) {
            nameIs(b <= 127, 0, b);
        }
        nameIs(true, 0);
        nameIs(true, 0, 0, 127, 65);
    }

    private static void groupsOfTwo() {
        Kit.sentence("or 194 .. 223 and one byte more");
        for (int first = 128; first < 256; first++) {
            for (int second : new int[] {0, 127, 128, 129, 143, 144, 159, 160, 190, 191, 192, 255}) {
                nameIs(first >= 194 && first <= 223 && follows(second), 0, first, second);
            }
        }
        nameIs(false, 1, 65, 194);
        nameIs(true, 0, 194, 128, 223, 191, 65);
    }

    private static void groupsOfThree() {
        Kit.sentence("or 224 .. 239 and two");
        for (int first = 194; first < 256; first++) {
            for (int third : new int[] {0, 127, 128, 191, 192, 255}) {
                // A group of two leaves the third byte to be a group of its own.
                boolean two = first <= 223;
                boolean three = first >= 224 && first <= 239;
                int second = first == 224 ? 160 : 128;
                boolean right = two ? third <= 127 : three && follows(third);
                nameIs(right, two ? 2 : 0, first, second, third);
            }
        }
        nameIs(false, 0, 225, 128);
        nameIs(false, 0, 225);
    }

    private static void groupsOfFour() {
        Kit.sentence("or 240 .. 244 and three; these are 128 .. 191");
        for (int first = 240; first < 256; first++) {
            for (int third : new int[] {0, 127, 128, 191, 192, 255}) {
                int second = first == 240 ? 144 : 128;
                nameIs(first <= 244 && follows(third), 0, first, second, third, 128);
                nameIs(first <= 244 && follows(third), 0, first, second, 191, third);
            }
        }
        nameIs(false, 0, 241, 128, 128);
        nameIs(false, 0, 241, 128);
        nameIs(false, 0, 241);
        nameIs(true, 0, 240, 159, 152, 128, 226, 130, 172, 195, 164, 65);
    }

    private static void secondBytesThatAreNarrower() {
        Kit.sentence("but the second one not below 160 behind 224, not above 159 behind 237, not below 144 behind "
                + "240, and not above 143 behind 244");
        for (int first = 224; first <= 244; first++) {
            for (int second = 0; second < 256; second++) {
                boolean right = follows(second) && !(first == 224 && second < 160) && !(first == 237 && second > 159)
                        && !(first == 240 && second < 144) && !(first == 244 && second > 143);
                if (first <= 239) {
                    nameIs(right, 0, first, second, 128);
                } else {
                    nameIs(right, 0, first, second, 128, 128);
                }
            }
        }
    }

    private static void allBytesFirst() {
        Kit.sentence("First all bytes must be there (fault 2)");
        Kit.faults("no name, and not there", Kit.module(0, 3, 3, 255, 255, 0, 1, 0), 2, 13);
        Kit.faults("none of its bytes", Kit.module(0, 1, 1, 0, 1, 0), 2, 11);
        Kit.faults("far too many", Kit.module(0, 7, Kit.count(0xFFFFFFFFL), 255, 255, 0, 1, 0), 2, 17);
        Kit.faults("2 to the power of 31", Kit.module(0, 7, Kit.count(0x80000000L), 255, 255, 0, 1, 0), 2, 17);
        Kit.faults("an import's", Kit.module(2, 4, 1, 3, 255, 255, 0, 1, 0), 2, 14);
        Kit.faults("an export's", Kit.module(7, 4, 1, 3, 255, 255, 0, 1, 0), 2, 14);
    }

    private static void theFirstGroupThatIsNone() {
        Kit.sentence("fault 4 is at the first byte of the first group that is none");
        nameIs(false, 3, 65, 195, 164, 226, 130, 65);
        nameIs(false, 0, 194, 65);
        nameIs(false, 1, 65, 128, 128);
        nameIs(false, 7, 240, 159, 152, 128, 226, 130, 172, 237, 160, 128, 255);
        Kit.faults("a group does not reach beyond its name", Kit.module(0, 4, 1, 194, 128, 0), 4, 11);
        Kit.faults("an export's name", Kit.module(7, 5, 1, 2, 65, 255, 0), 4, 13);
        Kit.faults("an import's first name", Kit.module(2, 6, 1, 1, 200, 0, 0, 0), 4, 12);
        Kit.faults("an import's second name", Kit.module(2, 6, 1, 0, 1, 200, 0, 0), 4, 13);
    }

    private static void rows() {
        Kit.sentence("A ROW of something is a count, and as many of that.");
        for (int kind = 1; kind <= 11; kind++) {
            if (kind != 8) {
                Kit.valid("a row of none, section " + kind, Kit.module(kind, 1, 0));
                Kit.faults("a row of one that is not there, section " + kind, Kit.module(kind, 1, 1), 2, 11);
                Kit.faults("a row of very many, section " + kind, Kit.module(Kit.section(kind, Kit.count(0xFFFFFFFFL))),
                        2, 15);
            }
        }
        Kit.faults("fewer than there are", Kit.module(1, 7, 1, 96, 0, 0, 96, 0, 0), 7, 14);
        Kit.faults("more than there are", Kit.module(1, 7, 3, 96, 0, 0, 96, 0, 0), 2, 17);
        Kit.faults("more parameters than there are", Kit.module(Kit.section(1, 1, 96, Kit.count(0xFFFFFFFFL), 127)), 2,
                18);
        Kit.faults("more functions than there are", Kit.module(9, 6, 1, 0, 0x41, 0, 11, 1), 2, 16);
        for (long many : new long[] {0x80000000L, 0xFFFFFFFFL}) {
            // What stands behind would be right if there were none.
            Kit.faults("very many parameters", Kit.module(Kit.section(1, 1, 96, Kit.count(many), 0)), 5, 17);
            Kit.faults("very many results", Kit.module(Kit.section(1, 1, 96, 0, Kit.count(many))), 2, 18);
            Kit.faults("very many functions", Kit.module(Kit.section(9, 1, 0, 0x41, 0, 11, Kit.count(many))), 2, 20);
            Kit.faults("very many locals", Kit.module(Kit.section(10, 1, Kit.sized(Kit.count(many), 11))), 2, 18);
            Kit.faults("very many labels", Kit.module(Kit.section(10, 1, Kit.sized(0, 0x0E, Kit.count(many), 11))), 2,
                    20);
        }
        Kit.faults("more data than there are", Kit.module(Kit.section(11, 1, 0, 0x41, 0, 11, Kit.count(0xFFFFFFFFL),
                9)), 2, 21);
        Kit.faults("more data than there are", Kit.module(Kit.section(11, 1, 0, 0x41, 0, 11, Kit.count(0x80000000L),
                9)), 2, 21);
    }
}
