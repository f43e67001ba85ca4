import java.io.ByteArrayOutputStream;
import java.io.IOException;
import java.nio.charset.StandardCharsets;
import java.nio.file.Files;
import java.nio.file.Path;

/** What the tests share: counting wrong answers, writing modules as bytes, and feeding them to a host. */
final class Kit {
    static final int I = 127;
    static final int L = 126;
    static final int F = 125;
    static final int D = 124;
    static final int VOID = 64;

    private static final Path DOCUMENT = Path.of("../shared/DOC.md");

    private static int checks = 0;
    private static int wrong = 0;
    private static int sentences = 0;
    private static String sentence = "";
    private static int checksBefore = 0;
    private static String document = null;

    private Kit() {
    }

    /** A call that may throw. */
    interface Call {
        void go();
    }

    /**
     * The words of the document that the checks from here on stand for. They must still be in it, lest a test outlive
     * its sentence, and each must have a check.
     */
    static void sentence(String words) {
        leaveSentence();
        sentence = words;
        sentences++;
        checksBefore = checks;
        if (!document().isEmpty() && !document().contains(words)) {
            say("these words are not in the document");
        }
    }

    private static void leaveSentence() {
        if (!sentence.isEmpty() && checks == checksBefore) {
            say("nothing is checked");
        }
    }

    private static String document() {
        if (document == null) {
            try {
                document = Files.exists(DOCUMENT) ? Files.readString(DOCUMENT).replaceAll("\\s+", " ") : "";
            } catch (IOException e) {
                document = "";
            }
        }
        return document;
    }

    private static void say(String fault) {
        wrong++;
        System.out.println(fault + (sentence.isEmpty() ? "" : "  [" + sentence + "]"));
    }

    static void same(String what, long got, long due) {
        checks++;
        if (got != due) {
            say(what + " answered " + got + ", due is " + due);
        }
    }

    static void throwsOf(String what, Class<? extends RuntimeException> due, Call call) {
        checks++;
        String got = "nothing";
        try {
            call.go();
        } catch (RuntimeException e) {
            got = e.getClass().getSimpleName();
        }
        if (!got.equals(due.getSimpleName())) {
            say(what + " threw " + got + ", due is " + due.getSimpleName());
        }
    }

    static void outside(String what, Call call) {
        throwsOf(what, IndexOutOfBoundsException.class, call);
    }

    static void illegalState(String what, Call call) {
        throwsOf(what, IllegalStateException.class, call);
    }

    static void illegalArgument(String what, Call call) {
        throwsOf(what, IllegalArgumentException.class, call);
    }

    /** Ends a test. */
    static void close() {
        leaveSentence();
        System.out.println(sentences + " sentences, " + checks + " checks, " + wrong + " wrong");
        if (wrong != 0 || checks == 0) {
            System.exit(1);
        }
    }

    static byte[] bytes(int... numbers) {
        byte[] out = new byte[numbers.length];
        for (int k = 0; k < numbers.length; k++) {
            out[k] = (byte) numbers[k];
        }
        return out;
    }

    /** Joins bytes: each part is a number (one byte), a text, or a row of bytes. */
    static byte[] join(Object... parts) {
        ByteArrayOutputStream out = new ByteArrayOutputStream();
        for (Object part : parts) {
            if (part instanceof Integer) {
                out.write((Integer) part);
            } else if (part instanceof String) {
                out.writeBytes(((String) part).getBytes(StandardCharsets.ISO_8859_1));
            } else {
                out.writeBytes((byte[]) part);
            }
        }
        return out.toByteArray();
    }

    static byte[] count(long number) {
        ByteArrayOutputStream out = new ByteArrayOutputStream();
        long left = number;
        do {
            int low = (int) (left & 127);
            left >>>= 7;
            out.write(left != 0 ? low | 128 : low);
        } while (left != 0);
        return out.toByteArray();
    }

    static byte[] signed(long number) {
        ByteArrayOutputStream out = new ByteArrayOutputStream();
        long left = number;
        boolean more = true;
        while (more) {
            int low = (int) (left & 127);
            left >>= 7;
            more = !(left == 0 && (low & 64) == 0 || left == -1 && (low & 64) != 0);
            out.write(more ? low | 128 : low);
        }
        return out.toByteArray();
    }

    /** So many bytes, the lowest first. */
    static byte[] plain(long bits, int howMany) {
        byte[] out = new byte[howMany];
        for (int k = 0; k < howMany; k++) {
            out[k] = (byte) (bits >>> 8 * k);
        }
        return out;
    }

    static byte[] sized(Object... parts) {
        byte[] inner = join(parts);
        return join(count(inner.length), inner);
    }

    /** A name, or any text with its length. */
    static byte[] text(String text) {
        return sized(text);
    }

    static byte[] row(byte[]... items) {
        return join(count(items.length), join((Object[]) items));
    }

    static byte[] section(int kind, Object... parts) {
        return join(kind, sized(parts));
    }

    static byte[] sectionOf(int kind, byte[]... items) {
        return section(kind, row(items));
    }

    static byte[] module(Object... sections) {
        return join(bytes(0, 97, 115, 109, 1, 0, 0, 0), join(sections));
    }

    static byte[] type(int[] parameters, int... results) {
        return join(96, sized(bytes(parameters)), sized(bytes(results)));
    }

    static int[] of(int... types) {
        return types;
    }

    static byte[] export(String name, int kind, int number) {
        return join(text(name), kind, count(number));
    }

    /** A body without locals; its end is added. */
    static byte[] body(Object... code) {
        return sized(0, join(code), 0x0B);
    }

    /** A body with locals, one group of them; its end is added. */
    static byte[] bodyWith(int locals, int type, Object... code) {
        return sized(1, count(locals), type, join(code), 0x0B);
    }

    static byte[] i32(int number) {
        return join(0x41, signed(number));
    }

    static byte[] i64(long number) {
        return join(0x42, signed(number));
    }

    static byte[] f32(float number) {
        return join(0x43, plain(Float.floatToRawIntBits(number), 4));
    }

    static byte[] f64(double number) {
        return join(0x44, plain(Double.doubleToRawLongBits(number), 8));
    }

    /** A module with one function, exported as "f". */
    static byte[] single(byte[] type, byte[] body) {
        return module(sectionOf(1, type), section(3, 1, 0), sectionOf(7, export("f", 0, 0)), sectionOf(10, body));
    }

    static void feed(StackHost host, byte[] bytes) {
        int had = 0;
        for (int at = 0; at < bytes.length; at += 20) {
            int[] n = new int[5];
            for (int k = 0; k < 20; k++) {
                int b = at + k < bytes.length ? bytes[at + k] & 255 : 0;
                n[k / 4] = n[k / 4] << 8 | b;
            }
            had = host.feed(n[0], n[1], n[2], n[3], n[4]);
        }
        int over = (20 - bytes.length % 20) % 20;
        host.end(had - over);
    }

    static int load(StackHost host, byte[] bytes) {
        feed(host, bytes);
        return host.load();
    }

    /** Loads a module that must be valid, and makes it an instance. */
    static int instance(StackHost host, byte[] bytes) {
        int loaded = load(host, bytes);
        if (loaded < 0) {
            same("load of a module that is valid; its fault at " + host.fault(1), host.fault(0), 0);
            return -1;
        }
        int made = host.instantiate(loaded);
        if (made < 0) {
            same("instantiate, at " + host.fault(1), host.fault(0), 0);
        }
        return made;
    }

    static void name(StackHost host, int instance, String name) {
        feed(host, join(name));
        host.name(instance);
    }

    static int find(StackHost host, int instance, String name) {
        feed(host, join(name));
        return host.find(instance);
    }

    static void faults(String what, byte[] bytes, int code, int place) {
        StackHost host = new StackHost();
        int loaded = load(host, bytes);
        same(what + ": load", loaded, code == 0 ? 0 : -1);
        same(what + ": fault", host.fault(0), code);
        same(what + ": place", host.fault(1), place);
    }

    static void valid(String what, byte[] bytes) {
        faults(what, bytes, 0, 0);
    }

    /** Invokes an export and runs it to its end; answers what run answers. */
    static int callOf(StackHost host, int instance, int export, long... arguments) {
        for (long argument : arguments) {
            host.push(argument);
        }
        host.invoke(instance, export);
        return host.run(1000000);
    }
}
