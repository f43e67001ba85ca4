import com.sun.management.ThreadMXBean;
import java.lang.management.ManagementFactory;
import java.util.Arrays;

/**
 * Part 7 of the terms: what a whole script makes stays small. All calls of one run live in one room of some 7.3
 * million fields and elements and 600,000 objects; each of the former takes a byte at least, each of the latter
 * sixteen, so that a script that makes fewer than 7.3 million bytes in all keeps to both.
 */
public final class RoomTest {
    private static final long ROOM = 7300000;
    private static final int TAPES = 81920;
    private static final ThreadMXBean THREADS = (ThreadMXBean) ManagementFactory.getThreadMXBean();
    private static final byte[] VOID_TYPE = Kit.type(Kit.of());

    private static StackHost host = new StackHost();
    private static long used = 0;

    public static void main(String[] args) {
        Kit.sentence("A script's tapes are 81920 bytes together; of each byte come at most some four numbers and a "
                + "third of an object.");
        tapes("functions of elements", elements(60000));
        tapes("exports", exports(9000));
        tapes("types", rows(1, 20000, Kit.bytes(96, 0, 0)));
        tapes("imports", rows(2, 9000, Kit.bytes(0, 0, 3, 127, 0)));
        tapes("variables", rows(6, 12000, Kit.bytes(127, 0, 0x41, 0, 11)));
        tapes("rows of elements", rows(9, 12000, Kit.bytes(0, 0x41, 0, 11, 0)));
        tapes("rows of data", rows(11, 12000, Kit.bytes(0, 0x41, 0, 11, 0)));
        tapes("functions", functions(15000, Kit.body()));
        tapes("groups of locals", functions(1, Kit.sized(Kit.count(30000), repeated(30000, 0, 127), 11)));
        tapes("operands", functions(1, Kit.body(repeated(20000, 0x41, 0), repeated(20000, 0x1A))));
        tapes("labels", functions(1, Kit.body(0x41, 0, 0x0E, Kit.count(60000), new byte[60001])));
        tapes("any bytes", Kit.module(Kit.section(0, 0, new byte[65000])));
        smallTapes();
        refusals();
        Kit.sentence("All memory is the host's own: at most 64 modules, 16 pages, 16384 elements, 8192 functions, "
                + "4096 variables, 16384 values, 200 calls");
        pages();
        values();
        instances();
        longNames();
        Kit.close();
    }

    private static byte[] repeated(int times, int... bytes) {
        byte[] out = new byte[times * bytes.length];
        for (int k = 0; k < out.length; k++) {
            out[k] = (byte) bytes[k % bytes.length];
        }
        return out;
    }

    private static byte[] rows(int kind, int count, byte[] one) {
        byte[] all = new byte[count * one.length];
        for (int k = 0; k < all.length; k++) {
            all[k] = one[k % one.length];
        }
        byte[] section = Kit.section(kind, Kit.count(count), all);
        byte[] before = kind == 9 ? Kit.section(4, 1, 112, 0, 0) : kind == 11 ? Kit.section(5, 1, 0, 0) : Kit.bytes();
        return Kit.module(before, section);
    }

    private static byte[] elements(int count) {
        return Kit.module(Kit.sectionOf(1, VOID_TYPE), Kit.section(2, 1, 4, "host", 1, "i", 0, 0),
                Kit.section(4, 1, 112, 0, Kit.count(16384)), Kit.section(9, 1, 0, Kit.i32(0), 11, Kit.count(count),
                new byte[count]));
    }

    private static byte[] exports(int count) {
        byte[][] all = new byte[count][];
        for (int k = 0; k < count; k++) {
            all[k] = Kit.join(3, 1 + k % 120, 1 + k / 120 % 120, 1 + k / 14400, 2, 0);
        }
        return Kit.module(Kit.section(5, 1, 0, 0), Kit.sectionOf(7, all));
    }

    private static byte[] functions(int count, byte[] body) {
        byte[] all = new byte[count * body.length];
        for (int k = 0; k < all.length; k++) {
            all[k] = body[k % body.length];
        }
        return Kit.module(Kit.sectionOf(1, VOID_TYPE), Kit.section(3, Kit.count(count), new byte[count]),
                Kit.section(10, Kit.count(count), all));
    }

    private static void newRun() {
        used = 0;
        long before = made();
        host = new StackHost();
        used += made() - before;
    }

    private static long made() {
        return THREADS.getThreadAllocatedBytes(Thread.currentThread().getId());
    }

    /** Feeds and loads; only what the host itself makes is counted. */
    private static int load(byte[] bytes) {
        for (int at = 0; at < bytes.length; at += 20) {
            int[] n = new int[5];
            for (int k = 0; k < 20 && at + k < bytes.length; k++) {
                n[k / 4] |= (bytes[at + k] & 255) << 24 - 8 * (k % 4);
            }
            long before = made();
            host.feed(n[0], n[1], n[2], n[3], n[4]);
            used += made() - before;
        }
        host.end(bytes.length);
        long before = made();
        int loaded = host.load();
        used += made() - before;
        return loaded;
    }

    private static int instantiate(int module) {
        long before = made();
        int made = host.instantiate(module);
        used += made() - before;
        return made;
    }

    private static int call(int instance, int export, long... arguments) {
        long before = made();
        int how = Kit.callOf(host, instance, export, arguments);
        used += made() - before;
        return how;
    }

    private static void fits(String what) {
        Kit.same(what + ", " + used + " bytes: within the room", used < ROOM ? 1 : 0, 1);
    }

    /** One tape that is as long as can be, and another with what is left of all tapes. */
    private static void tapes(String what, byte[] module) {
        newRun();
        int loaded = load(module);
        Kit.same(what + ": the fault", host.fault(0), 0);
        int rest = TAPES - module.length;
        load(Arrays.copyOf(module, Math.min(rest, module.length)));
        if (loaded >= 0) {
            instantiate(loaded);
            instantiate(loaded);
        }
        fits(what);
    }

    private static void smallTapes() {
        newRun();
        byte[] module = functions(140, Kit.body(Kit.i32(1), 0x1A));
        Kit.same("64 of them are as long as all tapes", 64 * module.length <= TAPES ? 1 : 0, 1);
        for (int k = 0; k < 64; k++) {
            Kit.same("load", load(module), k);
        }
        fits("as many modules as can be");
        newRun();
        byte[] wrong = Kit.join(Kit.module(Kit.sectionOf(1, VOID_TYPE)), 12);
        // An object is used for 512 calls, and each of these takes two at least.
        for (int k = 0; k < 256; k++) {
            load(wrong);
        }
        fits("many tapes with a fault");
    }

    private static void refusals() {
        newRun();
        int loaded = load(Kit.module(Kit.section(5, 1, 0, 17)));
        for (int k = 0; k < 500; k++) {
            instantiate(loaded);
        }
        fits("many refused instances");
        newRun();
        long before = made();
        for (int k = 0; k < 500; k++) {
            try {
                host.pages(k);
            } catch (IndexOutOfBoundsException e) {
                continue;
            }
        }
        used += made() - before;
        fits("many calls that throw");
    }

    private static void pages() {
        newRun();
        byte[] growing = Kit.module(Kit.sectionOf(1, Kit.type(Kit.of(Kit.I), Kit.I)), 3, 2, 1, 0,
                Kit.section(5, 1, 0, 0), Kit.sectionOf(7, Kit.export("g", 0, 0)),
                Kit.sectionOf(10, Kit.body(0x20, 0, 0x40, 0)));
        int made = instantiate(load(growing));
        for (int k = 0; k < 17; k++) {
            call(made, 0, 1);
        }
        Kit.same("pages", host.pages(made), 16);
        fits("pages, one by one");
    }

    private static void values() {
        newRun();
        byte[] tall = Kit.join(repeated(16000, 0x41, 0), repeated(16000, 0x1A));
        int deep = instantiate(load(Kit.single(VOID_TYPE, Kit.body(tall))));
        byte[] module = Kit.module(Kit.sectionOf(1, Kit.type(Kit.of(Kit.I))), Kit.section(2, 1, 4, "host", 1, "i", 0,
                0), 3, 2, 1, 0, Kit.sectionOf(7, Kit.export("f", 0, 1)), Kit.sectionOf(10,
                Kit.body(3, 64, 0x20, 0, 0x10, 0, 0x20, 0, Kit.i32(1), 0x6B, 0x22, 0, 0x0D, 0, 11)));
        int putting = instantiate(load(module));
        for (int k = 0; k < 100; k++) {
            Kit.same("run", call(deep, 0), 0);
            Kit.same("run", call(putting, 0, 4096), 0);
            host.clear();
        }
        fits("values and OUT, again and again");
    }

    private static void instances() {
        newRun();
        byte[][] imports = new byte[6000][];
        for (int k = 0; k < imports.length; k++) {
            imports[k] = Kit.join(4, "host", 1, "i", 0, 0);
        }
        int loaded = load(Kit.module(Kit.sectionOf(1, Kit.type(Kit.of(Kit.I))), Kit.sectionOf(2, imports)));
        for (int k = 0; k < 24; k++) {
            Kit.same("instantiate", instantiate(loaded), k);
        }
        Kit.same("the 25th", instantiate(loaded), -1);
        fits("24 instances of many imports");
    }

    private static void longNames() {
        newRun();
        int made = instantiate(load(Kit.module()));
        for (int k = 0; k < 80; k++) {
            Kit.feed(host, new byte[1000]);
            long before = made();
            host.name(made);
            used += made() - before;
        }
        fits("long names");
    }
}
