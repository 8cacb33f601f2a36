import java.io.IOException;
import java.lang.reflect.Constructor;
import java.lang.reflect.Field;
import java.lang.reflect.Method;
import java.lang.reflect.Modifier;
import java.nio.file.Files;
import java.nio.file.Path;
import java.util.Arrays;
import java.util.List;
import java.util.Set;
import java.util.TreeSet;
import java.util.regex.Matcher;
import java.util.regex.Pattern;

/** Those rules of ../shared/LANGUAGE.md that can be seen from the source or from the compiled class. */
public final class RulesTest {
    private static final String[] FACE = {"int write(int,long)", "int wipe()", "int fault()", "int lay()", "int law(int)",
        "int line(int)", "int ball(int,int)", "int at(int,int,int)", "int touch(int,int)", "int camera(int,int,int)",
        "int blur(int,int,int,int)", "int mark(int,int,int)", "int heard(int,int,int,int,int)", "int noSights()",
        "int leave(int)", "int fits(int,int)", "int fitting(int)", "int odds(int)", "int shown(int)",
        "int apart(int,int)", "int moved()", "int whose(int)", "int would(int)", "int call(int,int,boolean)",
        "int lean(int,int)", "int sort(int,int,int)", "long worth(int,int,int)", "int when(int,int,int)",
        "int truly(int,boolean)", "int bestSure(int)", "int keep()", "int back()", "int count(int)"};
    private static final String[] FORBIDDEN = {"\\bthrow\\b", "\\btry\\b", "\\bcatch\\b", "\\bsynchronized\\b",
        "\\bassert\\b", "->", "::", "Exact\\b", "\\bprotected\\b", "\\bpackage\\b", "\\bSystem\\.(?!arraycopy\\b)",
        "\\bThread\\b", "\\bRandom\\b", "\\bObject\\b", "\\btoString\\b", "\\bhashCode\\b", "\\bfinalize\\b"};

    private static int wrong = 0;

    private static void must(boolean so, String rule) {
        if (!so) {
            wrong++;
            System.out.println("not so: " + rule);
        }
    }

    public static void main(String[] args) throws IOException {
        face();
        insides();
        String source = Files.readString(Path.of(System.getProperty("wasitout.source", "src/main/java/WasItOut.java")));
        words(source);
        rows(source);
        lengths(source);
        System.out.println(wrong == 0 ? "the rules looked at are kept" : wrong + " rules are broken");
        if (wrong != 0) {
            System.exit(1);
        }
    }

    private static String told(Method m) {
        StringBuilder s = new StringBuilder(m.getReturnType() + " " + m.getName() + "(");
        for (Class<?> p : m.getParameterTypes()) {
            s.append(s.charAt(s.length() - 1) == '(' ? "" : ",").append(p);
        }
        return s + ")";
    }

    private static void face() {
        must(Modifier.isPublic(WasItOut.class.getModifiers()) && Modifier.isFinal(WasItOut.class.getModifiers()),
            "rule 1: public and final");
        Set<String> open = new TreeSet<>();
        for (Method m : WasItOut.class.getDeclaredMethods()) {
            if (Modifier.isPublic(m.getModifiers())) {
                open.add(told(m));
            } else {
                must(Modifier.isPrivate(m.getModifiers()), "rule 1: " + m + " is private");
            }
        }
        must(open.equals(new TreeSet<>(Arrays.asList(FACE))), "rule 1: the face is the document's, not " + open);
        for (Method m : WasItOut.class.getDeclaredMethods()) {
            boolean named = open.stream().anyMatch(f -> f.contains(" " + m.getName() + "("));
            must(Modifier.isPublic(m.getModifiers()) || !named, "rule 1: " + m + " bears a name of the face");
        }
        Set<String> constants = new TreeSet<>();
        for (Field f : WasItOut.class.getDeclaredFields()) {
            if (Modifier.isPublic(f.getModifiers())) {
                constants.add(f.getName());
            } else {
                must(Modifier.isPrivate(f.getModifiers()), "rule 1: " + f + " is private");
            }
        }
        must(constants.equals(Set.of("BAD", "NO", "FULL", "NONE")), "rule 1: four constants, not " + constants);
        Constructor<?>[] made = WasItOut.class.getDeclaredConstructors();
        must(made.length == 1 && Modifier.isPublic(made[0].getModifiers()) && made[0].getParameterCount() == 0,
            "rule 1: one constructor");
    }

    private static void insides() {
        Set<String> names = new TreeSet<>();
        for (Method m : WasItOut.class.getMethods()) {
            names.add(m.getName());
        }
        Class<?>[] inside = WasItOut.class.getDeclaredClasses();
        must(inside.length < 12, "rule 11: some twelve classes");
        for (Class<?> c : inside) {
            must(Modifier.isStatic(c.getModifiers()) && Modifier.isPrivate(c.getModifiers()), "rule 2: " + c);
            int own = 0;
            for (Field f : c.getDeclaredFields()) {
                boolean isStatic = Modifier.isStatic(f.getModifiers());
                must(!isStatic || Modifier.isFinal(f.getModifiers()), "rule 5: " + f + " is final");
                own += isStatic ? 0 : 1;
            }
            must(own <= 20, "rule 11: fields of " + c);
            for (Method m : c.getDeclaredMethods()) {
                must(!names.contains(m.getName()), "rule 1: " + m + " bears a name of the face");
                must(m.getParameterCount() <= 7, "rule 11: parameters of " + m);
            }
        }
    }

    private static String withoutComments(String source) {
        return source.replaceAll("(?s)/\\*.*?\\*/", "").replaceAll("//[^\\n]*", "");
    }

    private static void words(String source) {
        String code = withoutComments(source);
        for (String word : FORBIDDEN) {
            Matcher m = Pattern.compile(word).matcher(code);
            must(!m.find(), "rules 4, 6, 13: no " + word);
        }
        List<String> imports = code.lines().filter(l -> l.startsWith("import")).toList();
        must(imports.equals(List.of("import java.util.Arrays;")), "rule 4: imports " + imports);
        must(source.chars().allMatch(c -> c == '\n' || c >= 32 && c < 127), "rule 4: plain signs");
    }

    /** Whatever is made is made with the object: then no run of calls can fill the room. */
    private static void rows(String source) {
        for (String line : withoutComments(source).lines().toList()) {
            must(!line.contains("new ") || line.matches(" +private final .* = new .*;"), "rule 12: " + line.trim());
        }
    }

    private static void lengths(String source) {
        String[] lines = source.split("\n");
        for (int i = 0; i < lines.length; i++) {
            if (lines[i].matches(" {4}(    )?(private |public |static )*[\\w\\[\\]]+ \\w+\\(.*\\{")) {
                String end = lines[i].replaceAll("\\S.*", "") + "}";
                int last = i;
                while (last < lines.length && !lines[last].equals(end)) {
                    last++;
                }
                must(last - i < 60, "rule 11: the length of " + lines[i].trim());
            }
        }
    }
}
