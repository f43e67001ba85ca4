import java.io.IOException;
import java.lang.reflect.Constructor;
import java.lang.reflect.Field;
import java.lang.reflect.Method;
import java.lang.reflect.Modifier;
import java.nio.file.Files;
import java.nio.file.Path;
import java.util.Arrays;
import java.util.HashSet;
import java.util.List;
import java.util.Set;
import java.util.TreeSet;
import java.util.regex.Matcher;
import java.util.regex.Pattern;

/** The public face, and the rules of LANGUAGE.md that can be looked at from outside: 1, 2, 4, 5, 6, 10 and 11. */
public final class FaceTest {
    private static final String[] FACE = {"int feed(int,int,int,int,int)", "void end(int)", "int load()",
        "int fault(int)", "int module(int,int)", "int room(int,int)", "int instantiate(int)", "void name(int)",
        "int find(int)", "int exported(int,int,int)", "int push(long)", "void invoke(int,int)", "int run(int)",
        "int stop()", "int calls()", "long result()", "int trap(int)", "int pages(int)", "int peek(int,int)",
        "void poke(int,int,int)", "long variable(int,int)", "int element(int,int)", "int wrong()", "int outs()",
        "long out(int)", "int clear()"};

    /** Of rule 4 only what it names: which others are "their like" is not for this project to say. */
    private static final Set<String> LIBRARY = Set.of("Arrays.copyOf", "Arrays.copyOfRange", "Arrays.fill",
        "System.arraycopy", "Integer.compare", "Integer.max", "Integer.min", "Integer.bitCount", "Long.compare",
        "Long.max", "Long.min", "Long.bitCount", "Math.max", "Math.min", "Math.abs", "Math.floorDiv",
        "Math.floorMod");
    private static final Pattern OF_A_CLASS = Pattern.compile("\\b([A-Z]\\w*[a-z]\\w*)\\s*\\.\\s*(\\w+)");

    public static void main(String[] args) throws IOException {
        theFace();
        theClassesInside();
        theText();
        theLibrary();
        Kit.close();
    }

    private static String shape(Method method) {
        StringBuilder out = new StringBuilder(method.getReturnType().getSimpleName());
        out.append(' ').append(method.getName()).append('(');
        for (int k = 0; k < method.getParameterCount(); k++) {
            out.append(k == 0 ? "" : ",").append(method.getParameterTypes()[k].getSimpleName());
        }
        return out.append(')').toString();
    }

    private static void right(String what, boolean holds) {
        Kit.same(what, holds ? 1 : 0, 1);
    }

    private static void theFace() {
        Class<?> face = StackHost.class;
        right("public and final", Modifier.isPublic(face.getModifiers()) && Modifier.isFinal(face.getModifiers()));
        Set<String> open = new TreeSet<>();
        for (Method method : face.getDeclaredMethods()) {
            if (Modifier.isPublic(method.getModifiers())) {
                open.add(shape(method));
            } else {
                right("private: " + method, Modifier.isPrivate(method.getModifiers()));
            }
        }
        right("the methods are those of the document: " + open, open.equals(new TreeSet<>(Arrays.asList(FACE))));
        for (Field field : face.getDeclaredFields()) {
            right("private: " + field, field.getName().equals("NONE") || Modifier.isPrivate(field.getModifiers()));
        }
        Constructor<?>[] constructors = face.getDeclaredConstructors();
        Kit.same("constructors", constructors.length, 1);
        right("a public one without parameters", Modifier.isPublic(constructors[0].getModifiers())
                && constructors[0].getParameterCount() == 0);
    }

    private static void theClassesInside() {
        Set<String> names = new HashSet<>();
        for (String method : FACE) {
            names.add(method.substring(method.indexOf(' ') + 1, method.indexOf('(')));
        }
        Class<?>[] inside = StackHost.class.getDeclaredClasses();
        right("some twelve classes", inside.length + 1 <= 12);
        for (Class<?> one : inside) {
            int modifiers = one.getModifiers();
            right("static and not open: " + one, Modifier.isStatic(modifiers) && !Modifier.isPublic(modifiers)
                    && !Modifier.isProtected(modifiers));
            int fields = 0;
            for (Field field : one.getDeclaredFields()) {
                boolean constant = Modifier.isStatic(field.getModifiers());
                right("a static field is final: " + field, !constant || Modifier.isFinal(field.getModifiers()));
                fields += constant ? 0 : 1;
            }
            right("some twenty fields: " + one, fields <= 20);
            for (Method method : one.getDeclaredMethods()) {
                right("no name of the face: " + method, !names.contains(method.getName()));
                right("seven parameters at most: " + method, method.getParameterCount() <= 7);
            }
        }
    }

    private static void theText() throws IOException {
        List<String> lines = Files.readAllLines(Path.of("src/main/java/StackHost.java"));
        String[] never = {"->", "::", "finally", "synchronized", "assert ", "Float.", "Double.", "Exact(",
            "getMessage", "printStackTrace", "System.out", "System.nano", "System.current", "Object ", "hashCode",
            "toString", "static {", "float ", "double ", "String "};
        for (String line : lines) {
            for (String word : never) {
                boolean isComment = line.trim().startsWith("*") || line.trim().startsWith("/");
                right("no " + word + " in: " + line, isComment || !line.contains(word));
            }
            right("no other import: " + line, !line.startsWith("import ") || line.equals("import java.util.Arrays;"));
            for (int k = 0; k < line.length(); k++) {
                if (line.charAt(k) > 126) {
                    right("a plain character in: " + line, false);
                }
            }
        }
    }

    private static void theLibrary() throws IOException {
        String text = Files.readString(Path.of("src/main/java/StackHost.java"));
        Set<String> own = new HashSet<>();
        for (Class<?> one : StackHost.class.getDeclaredClasses()) {
            own.add(one.getSimpleName());
        }
        String code = text.replaceAll("(?s)/\\*.*?\\*/|//[^\n]*|\"[^\"]*\"", " ");
        Matcher found = OF_A_CLASS.matcher(code);
        while (found.find()) {
            String name = found.group(1) + "." + found.group(2);
            right("of the library: " + name, own.contains(found.group(1)) || LIBRARY.contains(name));
        }
    }
}
