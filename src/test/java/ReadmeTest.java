import java.io.IOException;
import java.lang.reflect.Method;
import java.lang.reflect.Modifier;
import java.nio.file.Files;
import java.nio.file.Path;
import java.util.List;
import java.util.Set;
import java.util.TreeSet;
import java.util.regex.Matcher;
import java.util.regex.Pattern;
import java.util.stream.Stream;

/** README.md: its tables have every call as the class has it, its example every answer, its last part every test. */
public final class ReadmeTest {
    private static final Pattern FACE = Pattern.compile("(?m)^    public (?:int|long) (\\w+\\([^)]*\\)) \\{$");
    private static final Pattern EXAMPLE = Pattern.compile("(?s)```java\n(.*?)```");
    private static final Pattern ASKED = Pattern.compile("x\\.(\\w+)\\(([^)]*)\\); +// (-?\\d+)(: \\S.*)?");
    private static final String MADE = "WasItOut x = new WasItOut();";

    private static int wrong = 0;

    private ReadmeTest() {
    }

    private static void must(boolean so, String what) {
        if (!so) {
            wrong++;
            System.out.println("README.md: " + what);
        }
    }

    public static void main(String[] args) throws IOException, ReflectiveOperationException {
        Path page = Path.of(System.getProperty("wasitout.readme", "README.md"));
        Path source = Path.of(System.getProperty("wasitout.source", "src/main/java/WasItOut.java"));
        String text = Files.readString(page);
        tables(text, Files.readString(source));
        constants(text);
        example(text);
        tests(text, page.toAbsolutePath().resolveSibling("src/test/java"));
        System.out.println(wrong == 0 ? "the page tells what is so" : wrong + " faults of the page");
        if (wrong != 0) {
            System.exit(1);
        }
    }

    private static Set<String> found(Pattern pattern, String text) {
        Set<String> all = new TreeSet<>();
        Matcher m = pattern.matcher(text);
        while (m.find()) {
            all.add(m.group(1));
        }
        return all;
    }

    private static void tables(String text, String source) {
        Set<String> face = found(FACE, source);
        must(face.size() == openMethods().size(), "the face was not read from the source: " + face);
        Set<String> told = found(Pattern.compile("(?m)^\\| `(\\w+\\([^)]*\\))` \\| \\S.* \\|$"), text);
        for (String call : face) {
            must(told.contains(call), "no row of a table is of " + call);
        }
        for (String call : told) {
            must(face.contains(call), "the class has no " + call);
        }
    }

    private static void constants(String text) {
        String[] names = {"BAD", "NO", "FULL", "NONE"};
        int[] numbers = {WasItOut.BAD, WasItOut.NO, WasItOut.FULL, WasItOut.NONE};
        for (int i = 0; i < names.length; i++) {
            must(text.contains("| `" + names[i] + "` | " + numbers[i] + " | "), names[i] + " is told wrongly");
        }
    }

    private static void example(String text) throws ReflectiveOperationException {
        Matcher block = EXAMPLE.matcher(text);
        must(block.find(), "there is no example");
        if (!block.reset().find()) {
            return;
        }
        Set<String> used = new TreeSet<>();
        WasItOut x = null;
        for (String row : block.group(1).split("\n")) {
            Matcher m = ASKED.matcher(row);
            if (row.equals(MADE)) {
                x = new WasItOut();
            } else if (x != null && m.matches()) {
                used.add(m.group(1));
                long got = answer(x, m.group(1), m.group(2));
                must(got == Long.parseLong(m.group(3)), row + " answered " + got);
            } else {
                must(false, "the example has a row without an answer: " + row);
            }
        }
        for (Method method : openMethods()) {
            must(used.contains(method.getName()), "the example doesn't use " + method.getName());
        }
    }

    private static List<Method> openMethods() {
        return Stream.of(WasItOut.class.getDeclaredMethods()).filter(m -> Modifier.isPublic(m.getModifiers())).toList();
    }

    private static long answer(WasItOut x, String name, String numbers) throws ReflectiveOperationException {
        Method method = openMethods().stream().filter(m -> m.getName().equals(name)).findFirst().orElseThrow();
        String[] told = numbers.isEmpty() ? new String[0] : numbers.split(", ");
        Class<?>[] kinds = method.getParameterTypes();
        Object[] given = new Object[kinds.length];
        for (int i = 0; i < kinds.length; i++) {
            given[i] = value(told[i], kinds[i]);
        }
        return ((Number) method.invoke(x, given)).longValue();
    }

    private static Object value(String told, Class<?> kind) {
        if (kind == boolean.class) {
            return told.equals("true");
        }
        long v = Long.decode(told.replaceFirst("L$", ""));
        return kind == long.class ? (Object) v : (Object) Math.toIntExact(v);
    }

    private static void tests(String text, Path folder) throws IOException {
        must(text.contains("    .ci/run\n"), "it doesn't say how to run the tests");
        try (Stream<Path> files = Files.list(folder)) {
            for (Path file : files.toList()) {
                String name = file.getFileName().toString().replaceFirst("\\.java$", "");
                must(!name.endsWith("Test") || text.contains("- `" + name + "`: "), "it doesn't tell of " + name);
            }
        }
    }
}
