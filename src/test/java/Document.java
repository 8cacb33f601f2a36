import java.io.IOException;
import java.nio.file.Files;
import java.nio.file.Path;
import java.util.ArrayList;
import java.util.LinkedHashMap;
import java.util.List;
import java.util.Map;
import java.util.regex.Matcher;
import java.util.regex.Pattern;

/** The document by sections, and which of its sentences a test quotes: so that none goes without a test. */
final class Document {
    private static final char QUOTED = '~';

    private final Map<String, String> texts = new LinkedHashMap<>();
    private final Map<String, StringBuilder> left = new LinkedHashMap<>();

    private Document() {
    }

    /** Null if there is no such file. */
    static Document read(Path file) throws IOException {
        if (!Files.isRegularFile(file)) {
            return null;
        }
        Document made = new Document();
        for (String part : Files.readString(file).split("(?m)^## ")) {
            int end = part.indexOf('\n');
            if (end > 0) {
                made.add(part.substring(0, end).replaceAll(":.*", ""), part.substring(end));
            }
        }
        return made;
    }

    private void add(String name, String part) {
        String text = part.replaceAll("(?m)^```.*$", " ").replaceAll("\\s+", " ").trim();
        if (name.startsWith("Promise")) {
            text = text.replaceFirst("^`[^`]*`: ", "");
        } else if (name.equals("What it is")) {
            text = text.replaceFirst("^.*?======== 1 ", "");
        } else if (name.equals("Terms")) {
            text = text.replaceAll("Ahead of the calls [^-]*---- [^.]*\\.", "");
        } else {
            return;
        }
        texts.put(name, text);
        left.put(name, new StringBuilder(text));
    }

    /** Whether the section says so, word for word; what is quoted is marked. */
    boolean quote(String section, String sentence) {
        String text = texts.get(section);
        if (text == null || sentence.isEmpty()) {
            return false;
        }
        Matcher m = Pattern.compile("(?<![A-Za-z])" + Pattern.quote(sentence)).matcher(text);
        boolean found = false;
        while (m.find()) {
            found = true;
            for (int i = m.start(); i < m.end(); i++) {
                left.get(section).setCharAt(i, QUOTED);
            }
        }
        return found;
    }

    /** Words that no test quotes, by section. */
    List<String> unquoted() {
        List<String> found = new ArrayList<>();
        left.forEach((name, text) -> {
            for (String piece : text.toString().split(QUOTED + "+")) {
                if (piece.matches(".*[A-Za-z].*")) {
                    found.add(name + ": " + piece.trim());
                }
            }
        });
        return found;
    }
}
