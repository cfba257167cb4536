import java.io.IOException;
import java.lang.management.ManagementFactory;
import java.lang.reflect.Constructor;
import java.lang.reflect.Field;
import java.lang.reflect.Method;
import java.lang.reflect.Modifier;
import java.nio.charset.StandardCharsets;
import java.nio.file.Files;
import java.nio.file.Path;
import java.util.List;
import java.util.Set;
import java.util.TreeSet;
import java.util.regex.Matcher;
import java.util.regex.Pattern;

/**
 * The document's public face, and the rules of LANGUAGE.md that can be seen
 * from the class or its text. Run from the root of the checkout, as .ci/run does.
 */
public final class RulesTest {
    private static final Path SOURCE = Path.of("src/main/java/SealedFile.java");
    private static final List<String> FACE = List.of("put 3", "close 0", "undo 0", "cover 5", "alter 2", "read 1",
        "write 2", "revision 2", "bytes 1", "thing 3", "shadows 1", "covers 2", "covered 1", "number 2", "flaws 1",
        "judge 2", "change 3", "allowed 1", "first 1", "holding 1", "better 1", "sheet 3", "lose 1", "lay 4", "get 3",
        "copy 5", "tell 2", "count 1", "digest 0");
    private static final long ROOM_ELEMENTS = 7_300_000;
    private static int wrong = 0;

    private static void must(boolean right, String rule) {
        if (!right) {
            wrong++;
            System.out.println("not so: " + rule);
        }
    }

    private static String code() throws IOException {
        String text = Files.readString(SOURCE, StandardCharsets.ISO_8859_1);
        return text.replaceAll("(?s)/\\*.*?\\*/", "").replaceAll("//[^\n]*", "");
    }

    private static void face() {
        Class<?> c = SealedFile.class;
        must(Modifier.isPublic(c.getModifiers()) && Modifier.isFinal(c.getModifiers()), "public and final");
        Set<String> methods = new TreeSet<>(), names = new TreeSet<>();
        for (Method m : c.getDeclaredMethods()) {
            if (Modifier.isPrivate(m.getModifiers())) continue;
            must(Modifier.isPublic(m.getModifiers()) && !Modifier.isStatic(m.getModifiers()), m + " is of the face");
            must(m.getReturnType() == (m.getName().equals("digest") ? long.class : int.class), m + " answers as told");
            for (Class<?> p : m.getParameterTypes()) must(p == int.class, m + " takes ints");
            methods.add(m.getName() + " " + m.getParameterCount());
            names.add(m.getName());
        }
        must(methods.equals(new TreeSet<>(FACE)), "methods are those of the document, not " + methods);
        Constructor<?>[] made = c.getDeclaredConstructors();
        must(made.length == 1 && Modifier.isPublic(made[0].getModifiers()) && made[0].getParameterCount() == 0, "one constructor");
        fields(c);
        noOtherHasName(c, names);
    }

    private static void fields(Class<?> c) {
        Set<String> constants = new TreeSet<>();
        for (Field f : c.getDeclaredFields()) {
            boolean fixed = Modifier.isStatic(f.getModifiers()) && Modifier.isFinal(f.getModifiers());
            must(Modifier.isPrivate(f.getModifiers()) || Modifier.isPublic(f.getModifiers()) && fixed, f + " is private or a constant");
            must(!Modifier.isStatic(f.getModifiers()) || fixed, f + " is final");
            if (Modifier.isPublic(f.getModifiers())) constants.add(f.getName());
        }
        must(constants.equals(Set.of("NONE", "BAD", "NOT", "FULL")), "constants are those of the document");
        must(SealedFile.NONE == -1 && SealedFile.BAD == -2 && SealedFile.NOT == -3 && SealedFile.FULL == -4, "their numbers");
    }

    private static void noOtherHasName(Class<?> c, Set<String> names) {
        noPrivateHasName(c, names);
        for (Class<?> inside : c.getDeclaredClasses()) {
            must(Modifier.isStatic(inside.getModifiers()), inside + " is static");
            noPrivateHasName(inside, names);
        }
        must(c.getDeclaredClasses().length <= 12, "at most twelve classes");
    }

    private static void noPrivateHasName(Class<?> c, Set<String> names) {
        for (Method m : c.getDeclaredMethods()) {
            must(!Modifier.isPrivate(m.getModifiers()) || !names.contains(m.getName()), m + " has a name of its own");
        }
    }

    private static void words() throws IOException {
        String code = code();
        for (String word : List.of("throw", "throws", "try", "catch", "finally", "synchronized", "assert", "package",
            "protected", "System.out", "Random", "Thread", "hashCode")) {
            must(!Pattern.compile("\\b" + Pattern.quote(word) + "\\b").matcher(code).find(), "no " + word);
        }
        for (String line : code.split("\n")) {
            boolean ofSwitch = line.matches("\\s*(case .*|default) ->.*");
            must(ofSwitch || !line.contains("->"), "no lambda: " + line.trim());
        }
        must(!code.contains("::"), "no method reference");
        must(!code.contains("Exact("), "no function whose name ends in Exact");
        must(code.chars().allMatch(ch -> ch < 128), "plain signs alone");
        library(code);
    }

    private static void library(String code) {
        Set<String> known = Set.of("java.util.Arrays", "java.util.ArrayList", "java.util.List", "java.util.Iterator");
        Matcher imports = Pattern.compile("import ([^;]+);").matcher(code);
        while (imports.find()) must(known.contains(imports.group(1)), "no import of " + imports.group(1));
        Set<String> allowed = Set.of("Arrays.copyOf", "Arrays.copyOfRange", "Arrays.fill", "System.arraycopy");
        Matcher calls = Pattern.compile("\\b(Arrays|System)\\.(\\w+)").matcher(code);
        while (calls.find()) must(allowed.contains(calls.group()), "no call of " + calls.group());
    }

    /** The dearest call, as often as an object may be asked: what it makes must fit into the room of a whole run. */
    private static void callsMakeLittle() {
        if (!(ManagementFactory.getThreadMXBean() instanceof com.sun.management.ThreadMXBean bean)) return;
        SealedFile x = new SealedFile();
        for (int n = 1; n <= 40; n++) {
            x.put(n % 16, n % 6, n % 3);
            if (n % 5 == 0) x.close();
        }
        long id = Thread.currentThread().getId(), before = bean.getThreadAllocatedBytes(id);
        for (int call = 48; call <= 512; call++) x.digest();
        long made = bean.getThreadAllocatedBytes(id) - before;
        must(made < ROOM_ELEMENTS * Integer.BYTES, "calls make little, not " + made + " bytes");
    }

    private static void shortMethods() throws IOException {
        int start = 0, at = 0, indent = 0;
        for (String line : code().split("\n")) {
            at++;
            Matcher head = Pattern.compile("^( {4}| {8})(?:\\w+(?:\\[\\])? )*\\w+\\(([^)]*)\\) \\{$").matcher(line);
            if (head.matches() && !line.contains(" if (") && !line.contains(" for (") && !line.contains(" switch (")) {
                start = at;
                indent = head.group(1).length();
                must(head.group(2).split(",").length <= 7, "seven parameters: " + line.trim());
            }
            if (line.equals(" ".repeat(indent) + "}")) must(at - start <= 60, "sixty lines, up to line " + at);
        }
    }

    public static void main(String[] args) throws IOException {
        face();
        words();
        callsMakeLittle();
        shortMethods();
        System.out.println(wrong == 0 ? "all rules are kept" : wrong + " rules are not kept");
        if (wrong != 0) System.exit(1);
    }
}
