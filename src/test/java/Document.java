import java.io.IOException;
import java.nio.file.Files;
import java.nio.file.Path;
import java.util.Map;
import java.util.TreeMap;

/**
 * The document's words, so that a test can name the sentence that it shows:
 * a sentence that does not stand there is told, and so are words that no test has named.
 */
final class Document {
    private static final Path PLACE = Path.of("../shared/DOC.md");
    private static final Map<String, String> SECTIONS = read();
    private static final Map<String, boolean[]> NAMED = new TreeMap<>();

    private Document() { }

    /** "Terms", "Promise 1" and so on, each with its words in one line, without fences and the face's lines. */
    private static Map<String, String> read() {
        Map<String, String> sections = new TreeMap<>();
        try {
            for (String section : Files.readString(PLACE).split("(?m)^## ")) {
                int end = section.indexOf('\n');
                String words = section.substring(end + 1).replaceAll("(?m)^```.*$", "").replaceAll("`[^`]*`:", "");
                sections.put(section.substring(0, end).replaceAll(":.*", ""), inOneLine(words));
            }
        } catch (IOException e) {
            System.out.println("sentences are not held against " + PLACE + ": it cannot be read");
        }
        return sections;
    }

    private static String inOneLine(String words) {
        return words.replaceAll("\\s+", " ").trim();
    }

    static void quote(String section, String words) {
        if (SECTIONS.isEmpty()) {
            return;
        }
        String all = SECTIONS.getOrDefault(section, "");
        int from = all.indexOf(words);
        Check.due("stands in the document", from >= 0, true);
        boolean[] named = NAMED.computeIfAbsent(section, name -> new boolean[all.length()]);
        for (int k = from; from >= 0 && k < from + words.length(); k++) {
            named[k] = true;
        }
    }

    /** Every word of the terms and the promises must have been named. */
    static void everySentenceWasNamed() {
        for (Map.Entry<String, String> section : SECTIONS.entrySet()) {
            if (section.getKey().matches("Terms|Promise [0-9]+")) {
                Check.due("words of " + section.getKey() + " without a test", unnamed(section.getKey()), "");
            }
        }
    }

    private static String unnamed(String section) {
        String words = SECTIONS.get(section);
        boolean[] named = NAMED.getOrDefault(section, new boolean[words.length()]);
        StringBuilder rest = new StringBuilder();
        for (int k = 0; k < words.length(); k++) {
            if (!named[k]) {
                rest.append(words.charAt(k));
            } else if (rest.length() > 0 && rest.charAt(rest.length() - 1) != ' ') {
                rest.append(' ');
            }
        }
        return inOneLine(rest.toString());
    }
}
