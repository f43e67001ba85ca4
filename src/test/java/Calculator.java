/**
 * A host with one instance that exports a function for each of 0x45 .. 0xBF, to ask what such an instruction answers.
 */
final class Calculator {
    /** A trap is answered as this and its code; no number that the tests ask for is like it. */
    static final long TRAP = 0x5452415000000000L;
    private static final int BELOW = 0x5A5A5A5A;

    /** Last instruction, how many are taken, of what type, what is put. */
    private static final int[][] GROUPS = {
        {0x45, 1, Kit.I, Kit.I}, {0x4F, 2, Kit.I, Kit.I}, {0x50, 1, Kit.L, Kit.I}, {0x5A, 2, Kit.L, Kit.I},
        {0x60, 2, Kit.F, Kit.I}, {0x66, 2, Kit.D, Kit.I}, {0x69, 1, Kit.I, Kit.I}, {0x78, 2, Kit.I, Kit.I},
        {0x7B, 1, Kit.L, Kit.L}, {0x8A, 2, Kit.L, Kit.L}, {0x91, 1, Kit.F, Kit.F}, {0x98, 2, Kit.F, Kit.F},
        {0x9F, 1, Kit.D, Kit.D}, {0xA6, 2, Kit.D, Kit.D}, {0xA7, 1, Kit.L, Kit.I}, {0xA9, 1, Kit.F, Kit.I},
        {0xAB, 1, Kit.D, Kit.I}, {0xAD, 1, Kit.I, Kit.L}, {0xAF, 1, Kit.F, Kit.L}, {0xB1, 1, Kit.D, Kit.L},
        {0xB3, 1, Kit.I, Kit.F}, {0xB5, 1, Kit.L, Kit.F}, {0xB6, 1, Kit.D, Kit.F}, {0xB8, 1, Kit.I, Kit.D},
        {0xBA, 1, Kit.L, Kit.D}, {0xBB, 1, Kit.F, Kit.D}, {0xBC, 1, Kit.F, Kit.I}, {0xBD, 1, Kit.D, Kit.L},
        {0xBE, 1, Kit.I, Kit.F}, {0xBF, 1, Kit.L, Kit.D}};

    final StackHost host = new StackHost();
    private final int made = Kit.instance(host, everyInstruction());

    private static int[] groupOf(int op) {
        int k = 0;
        while (op > GROUPS[k][0]) {
            k++;
        }
        return GROUPS[k];
    }

    /** How many numbers an instruction takes. */
    static int taken(int op) {
        return groupOf(op)[1];
    }

    /** Of what type they are. */
    static int type(int op) {
        return groupOf(op)[2];
    }

    private static byte[] everyInstruction() {
        int n = 0xBF - 0x45 + 1;
        byte[][] types = new byte[n][];
        byte[][] numbers = new byte[n][];
        byte[][] exports = new byte[n][];
        byte[][] bodies = new byte[n][];
        for (int k = 0; k < n; k++) {
            int[] group = groupOf(0x45 + k);
            int[] taken = group[1] == 1 ? Kit.of(group[2]) : Kit.of(group[2], group[2]);
            types[k] = Kit.type(taken, group[3]);
            numbers[k] = Kit.count(k);
            exports[k] = Kit.export("e" + k, 0, k);
            byte[] second = group[1] == 1 ? Kit.bytes() : Kit.bytes(0x20, 1);
            int kept = group[1];
            // The answer is kept in a local; then what was below must be there, untouched, else 0x00 traps.
            bodies[k] = Kit.bodyWith(1, group[3], Kit.i32(BELOW), 0x20, 0, second, 0x45 + k, 0x21, kept, Kit.i32(BELOW),
                    0x47, 4, 64, 0, 11, 0x20, kept);
        }
        return Kit.module(Kit.sectionOf(1, types), Kit.sectionOf(3, numbers), Kit.sectionOf(7, exports),
                Kit.sectionOf(10, bodies));
    }

    /** What an instruction answers; it takes one number or two. */
    long of(int op, long... numbers) {
        int how = Kit.callOf(host, made, op - 0x45, numbers);
        return how == 0 ? host.result() : TRAP + host.trap(0);
    }
}
