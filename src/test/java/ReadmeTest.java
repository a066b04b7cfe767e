import java.lang.reflect.InvocationTargetException;
import java.lang.reflect.Method;
import java.nio.file.Files;
import java.nio.file.Path;
import java.util.ArrayList;
import java.util.List;
import java.util.Set;
import java.util.TreeSet;
import java.util.regex.Matcher;
import java.util.regex.Pattern;

/** What README.md says of the class: its example's answers, its table of calls and its table of texts. */
public final class ReadmeTest {
    private static final Pattern EXAMPLE = Pattern.compile("x\\.(\\w+)\\((.*?)\\); +// ([^:]+):.*");
    private static final Pattern CALL = Pattern.compile("\\| `(\\w+)\\((.*?)\\)` \\| .* \\|(.*)\\|");
    private static final Pattern TEXT = Pattern.compile("\\| `([^`]+)` \\| ([^|]+) \\|([^|]*)\\|[^|]*\\|");

    public static void main(String[] args) throws Exception {
        List<String> lines = Files.readAllLines(Path.of("README.md"));
        example(lines);
        calls(lines);
        texts(lines);
        Check.end();
    }

    private static void example(List<String> lines) throws Exception {
        ArrayText x = new ArrayText();
        int count = 0;
        for (String line : lines) {
            Matcher call = EXAMPLE.matcher(line);
            Check.due("form of " + line, call.matches(), line.startsWith("x."));
            if (call.matches()) {
                Check.due(line, answer(x, call.group(1), split(call.group(2))), call.group(3));
                count++;
            }
        }
        Check.due("an example of some calls", count >= 8, true);
    }

    /** Each call of the face once, with what it answers if all that it is given is -1. */
    private static void calls(List<String> lines) throws Exception {
        Set<String> told = new TreeSet<>();
        for (String line : lines) {
            Matcher call = CALL.matcher(line);
            if (call.matches()) {
                List<String> takes = split(call.group(2));
                Check.due("told once: " + line, told.add(call.group(1) + takes.size()), true);
                refusal(call.group(1), takes, call.group(3).trim());
            }
        }
        Set<String> face = new TreeSet<>();
        for (Method m : ArrayText.class.getMethods()) {
            if (m.getDeclaringClass() == ArrayText.class) {
                face.add(m.getName() + m.getParameterCount());
            }
        }
        Check.due("calls told", told, face);
    }

    private static void refusal(String name, List<String> takes, String want) throws Exception {
        List<String> given = new ArrayList<>(takes);
        given.replaceAll(any -> "-1");
        String got = answer(new ArrayText(), name, given);
        if (want.startsWith("throws")) {
            Check.due(name + " throws: " + got, got.startsWith("throws"), true);
        } else if (!want.isEmpty()) {
            Check.due(name + " refused", got, want);
        }
    }

    private static void texts(List<String> lines) {
        int count = 0;
        for (String line : lines) {
            Matcher row = TEXT.matcher(line);
            if (row.matches() && !CALL.matcher(line).matches()) {
                Check c = new Check();
                c.object.put(0, 3.0);
                c.fill(1, 4, 1.0, 2.0, 3.0, 4.0);
                c.fill(2, 67, 1.0, 2.0, 3.0, 4.0, 5.0, 6.0);
                Check.due(line, c.result(row.group(1)).replace("throws.", ""), row.group(2));
                Check.due("arrays made by " + line, c.object.made(),
                    row.group(3).isBlank() ? 0 : Integer.parseInt(row.group(3).trim()));
                count++;
            }
        }
        Check.due("some texts", count >= 15, true);
    }

    private static List<String> split(String words) {
        return words.isEmpty() ? List.of() : List.of(words.split(", "));
    }

    private static String answer(ArrayText x, String name, List<String> given) throws Exception {
        for (Method m : ArrayText.class.getMethods()) {
            if (m.getName().equals(name) && m.getParameterCount() == given.size()) {
                return answer(x, m, given);
            }
        }
        return "no such call";
    }

    private static String answer(ArrayText x, Method m, List<String> given) throws Exception {
        Object[] values = new Object[given.size()];
        for (int k = 0; k < values.length; k++) {
            values[k] = value(m.getParameterTypes()[k], given.get(k));
        }
        try {
            Object got = m.invoke(x, values);
            return got.equals(0.0) ? "0" : String.valueOf(got);
        } catch (InvocationTargetException e) {
            return "throws." + e.getCause().getClass().getSimpleName();
        }
    }

    private static Object value(Class<?> type, String word) {
        if (type == double.class) {
            return Double.valueOf(word);
        }
        long number = Long.decode(word.replaceAll("L$", ""));
        if (type == long.class) {
            return number;
        }
        return (int) number;
    }
}
