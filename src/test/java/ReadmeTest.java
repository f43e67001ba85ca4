import java.io.IOException;
import java.lang.reflect.Method;
import java.lang.reflect.Modifier;
import java.nio.file.DirectoryStream;
import java.nio.file.Files;
import java.nio.file.Path;
import java.util.regex.Matcher;
import java.util.regex.Pattern;

/** The README: its examples are those below, line by line, and what is written behind them holds. */
public final class ReadmeTest {
    private static final Path README = Path.of("README.md");
    private static final Path TESTS = Path.of("src/test/java");
    private static final Pattern EXAMPLE = Pattern.compile("(?s)```java\n(.*?)```");

    public static void main(String[] args) throws IOException {
        String readme = Files.readString(README);
        theExamples();
        theExamplesAreThese(readme);
        everyMethodIsNamed(readme);
        everyTestIsNamed(readme);
        Kit.close();
    }

    private static void theExamples() {
        StackHost host = new StackHost();

        // 41 bytes: a module that exports the function "add", which takes two numbers of 32 bits and puts their sum.
        host.feed(0x0061736D, 0x01000000, 0x01070160, 0x027F7F01, 0x7F030201);
        host.feed(0x00070701, 0x03616464, 0x00000A09, 0x01070020, 0x0020016A);
        host.feed(0x0B000000, 0, 0, 0, 0);
        host.end(41);
        int module = host.load();                // 0, the first module; StackHost.NONE if it had a fault
        int adder = host.instantiate(module);    // 0, the first instance; StackHost.NONE if it had a fault

        // Exports are numbered; the number is found by the name, which is on the tape then.
        host.feed(0x61646400, 0, 0, 0, 0);
        host.end(3);
        int add = host.find(adder);              // 0; StackHost.NONE if no export has that name

        host.push(2);
        host.push(40);
        host.invoke(adder, add);                 // it is under way now, and runs by fuel: a step needs one of it
        int first = host.run(2);                 // 2, it is held: its third step had no fuel
        int second = host.run(1000);             // 0, it has ended; 1 would be with a trap
        long sum = host.result();                // 42

        Kit.same("the module", module, 0);
        Kit.same("the instance", adder, 0);
        Kit.same("the export", add, 0);
        Kit.same("run(2)", first, 2);
        Kit.same("run(1000)", second, 0);
        Kit.same("the sum", sum, 42);

        host.feed(0x6D617468, 0, 0, 0, 0);
        host.end(4);
        host.name(adder);                        // it is "math" now

        // 68 bytes: a module that imports "add" of "math" and "i" of "host", and starts with i(add(2, 3)).
        host.feed(0x0061736D, 0x01000000, 0x010E0360, 0x027F7F01, 0x7F60017F);
        host.feed(0x00600000, 0x02150204, 0x6D617468, 0x03616464, 0x00000468);
        host.feed(0x6F737401, 0x69000103, 0x02010208, 0x01020A0C, 0x010A0041);
        host.feed(0x02410310, 0x0010010B, 0, 0, 0);
        host.end(68);
        int starter = host.instantiate(host.load());
        int started = host.run(1000);            // 0: the function that starts was under way, and has ended
        int outs = host.outs();                  // 1
        long out = host.out(0);                  // 5

        Kit.same("the second instance", starter, 1);
        Kit.same("its start", started, 0);
        Kit.same("outs", outs, 1);
        Kit.same("out(0)", out, 5);
    }

    private static String withoutIndents(String text) {
        return text.replaceAll("(?m)^ +", "");
    }

    private static void theExamplesAreThese(String readme) throws IOException {
        String compiled = withoutIndents(Files.readString(TESTS.resolve("ReadmeTest.java")));
        Matcher example = EXAMPLE.matcher(readme);
        int examples = 0;
        while (example.find()) {
            examples++;
            Kit.same("example " + examples + " is compiled here", compiled.contains(example.group(1)) ? 1 : 0, 1);
        }
        Kit.same("examples", examples, 2);
    }

    private static void named(String readme, String name) {
        Kit.same("`" + name + "` is named", readme.contains("`" + name + "`") ? 1 : 0, 1);
    }

    private static void everyMethodIsNamed(String readme) {
        for (Method method : StackHost.class.getDeclaredMethods()) {
            if (Modifier.isPublic(method.getModifiers())) {
                named(readme, method.getName());
            }
        }
    }

    private static void everyTestIsNamed(String readme) throws IOException {
        try (DirectoryStream<Path> files = Files.newDirectoryStream(TESTS, "*Test.java")) {
            for (Path file : files) {
                named(readme, file.getFileName().toString().replace(".java", ""));
            }
        }
    }
}
