import java.io.IOException;
import java.lang.reflect.Method;
import java.lang.reflect.Modifier;
import java.nio.file.Files;
import java.nio.file.Path;
import java.util.ArrayList;
import java.util.List;
import java.util.Set;
import java.util.TreeSet;
import java.util.regex.Matcher;
import java.util.regex.Pattern;

/**
 * README.md tells how to use the class, so it must be right too: each call of
 * its example answers what stands behind it, and its table has every call of
 * the face with as many parameters. Run from the root of the checkout.
 */
public final class ReadmeTest {
    // f.name(1, 2);   // text: answer
    private static final Pattern CALL = Pattern.compile("f\\.(\\w+)\\(([^)]*)\\);\\s+// .*: (-?\\d+)");
    private static final Pattern ROW = Pattern.compile("\\| `(\\w+)\\(([^)]*)\\)` \\|.*");
    private static int wrong = 0;

    private static void must(boolean right, String what) {
        if (!right) {
            wrong++;
            System.out.println("README.md, not so: " + what);
        }
    }

    private static List<String> parts(String row) {
        List<String> parts = new ArrayList<>();
        for (String part : row.split(",")) {
            if (!part.isBlank()) parts.add(part.trim());
        }
        return parts;
    }

    private static long answer(SealedFile f, String name, List<String> told) throws ReflectiveOperationException {
        Class<?>[] types = new Class<?>[told.size()];
        Object[] numbers = new Object[told.size()];
        for (int i = 0; i < types.length; i++) {
            types[i] = int.class;
            numbers[i] = Integer.parseInt(told.get(i));
        }
        return ((Number) SealedFile.class.getMethod(name, types).invoke(f, numbers)).longValue();
    }

    private static void example(List<String> lines) throws ReflectiveOperationException {
        int from = lines.indexOf("SealedFile f = new SealedFile();");
        must(from > 0 && lines.get(from - 1).equals("```java"), "there is an example");
        SealedFile f = new SealedFile();
        int calls = 0;
        for (int at = from + 1; at < lines.size() && !lines.get(at).equals("```"); at++) {
            Matcher call = CALL.matcher(lines.get(at));
            must(call.matches(), "a call, and what it answers: " + lines.get(at));
            if (!call.matches()) continue;
            calls++;
            long got = answer(f, call.group(1), parts(call.group(2)));
            must(got == Long.parseLong(call.group(3)), lines.get(at) + " but it answers " + got);
        }
        must(calls > 0, "the example has calls");
    }

    private static void table(List<String> lines) {
        Set<String> told = new TreeSet<>(), face = new TreeSet<>();
        for (String line : lines) {
            Matcher row = ROW.matcher(line);
            if (row.matches()) told.add(row.group(1) + " " + parts(row.group(2)).size());
        }
        for (Method m : SealedFile.class.getDeclaredMethods()) {
            if (Modifier.isPublic(m.getModifiers())) face.add(m.getName() + " " + m.getParameterCount());
        }
        must(told.equals(face), "the table has the calls " + face + ", it tells " + told);
    }

    public static void main(String[] args) throws IOException, ReflectiveOperationException {
        List<String> lines = Files.readAllLines(Path.of("README.md"));
        example(lines);
        table(lines);
        must(lines.contains(".ci/run"), "it tells how to run the tests");
        System.out.println(wrong == 0 ? "README.md is right" : wrong + " things in README.md are not so");
        if (wrong != 0) System.exit(1);
    }
}
