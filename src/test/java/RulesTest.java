import java.lang.reflect.Constructor;
import java.lang.reflect.Field;
import java.lang.reflect.Method;
import java.lang.reflect.Modifier;
import java.nio.file.Files;
import java.nio.file.Path;
import java.util.ArrayList;
import java.util.Arrays;
import java.util.List;
import java.util.Set;
import java.util.TreeSet;
import java.util.regex.Matcher;
import java.util.regex.Pattern;

/** The document's face, and those rules of LANGUAGE.md that can be seen from the classes and the source. */
public final class RulesTest {
    private static final String ASK = " throws IndexOutOfBoundsException IllegalArgumentException IllegalStateException"
        + " UnsupportedOperationException ArithmeticException";
    private static final String LOOK = " throws IllegalArgumentException IllegalStateException UnsupportedOperationException";
    private static final Set<String> FACE = new TreeSet<>(List.of(
        "int write(long)", "int erase()", "boolean put(int, double)", "boolean shape(int, int)",
        "boolean set(int, int, double)", "int shapeOf(int)", "int size(int)", "double at(int, int)",
        "int run(int)" + ASK, "int look()" + LOOK, "int made()", "int runs()"));

    public static void main(String[] args) throws Exception {
        face();
        faceOfTheDocument();
        classesInside();
        members();
        source();
        Check.end();
    }

    private static void face() {
        Check.due("public final class", ArrayText.class.getModifiers(), Modifier.PUBLIC | Modifier.FINAL);
        Set<String> methods = new TreeSet<>();
        for (Method m : ArrayText.class.getDeclaredMethods()) {
            if (!Modifier.isPrivate(m.getModifiers()) && !m.isSynthetic()) {
                methods.add(written(m));
                Check.due("modifiers of " + m, m.getModifiers(), Modifier.PUBLIC);
            }
        }
        Check.due("public methods", methods, FACE);
        Constructor<?>[] constructors = ArrayText.class.getDeclaredConstructors();
        Check.due("constructors", Arrays.toString(constructors), "[public ArrayText()]");
        for (Field f : ArrayText.class.getDeclaredFields()) {
            Check.due("private " + f, Modifier.isPrivate(f.getModifiers()), true);
        }
    }

    /** The lines of the document's face, so that a change of its words is seen here. */
    private static void faceOfTheDocument() throws Exception {
        Path document = Path.of("../shared/DOC.md");
        if (!Files.isReadable(document)) {
            System.out.println("the face is not held against " + document + ": it cannot be read");
            return;
        }
        Set<String> methods = new TreeSet<>();
        Matcher line = Pattern.compile("    public (\\w+ \\w+)\\((.*?)\\)(.*);").matcher(Files.readString(document));
        while (line.find()) {
            String takes = line.group(2).replaceAll(" \\w+(,|$)", "$1");
            methods.add(line.group(1) + "(" + takes + ")" + line.group(3).replace(",", ""));
        }
        Check.due("the document's face", methods, FACE);
    }

    private static String written(Method m) {
        List<String> takes = new ArrayList<>();
        for (Class<?> type : m.getParameterTypes()) {
            takes.add(type.getSimpleName());
        }
        StringBuilder all = new StringBuilder(m.getReturnType().getSimpleName());
        all.append(' ').append(m.getName()).append('(').append(String.join(", ", takes)).append(')');
        for (int k = 0; k < m.getExceptionTypes().length; k++) {
            all.append(k == 0 ? " throws " : " ").append(m.getExceptionTypes()[k].getSimpleName());
        }
        return all.toString();
    }

    private static void classesInside() {
        Class<?>[] inside = ArrayText.class.getDeclaredClasses();
        Check.due("at most twelve classes", inside.length + 1 <= 12, true);
        for (Class<?> c : inside) {
            Check.due("static " + c, Modifier.isStatic(c.getModifiers()), true);
            Check.due("not public " + c, (c.getModifiers() & (Modifier.PUBLIC | Modifier.PROTECTED)) == 0, true);
        }
    }

    private static List<Class<?>> allClasses() {
        List<Class<?>> all = new ArrayList<>(List.of(ArrayText.class.getDeclaredClasses()));
        all.add(ArrayText.class);
        return all;
    }

    private static void members() {
        Set<String> names = new TreeSet<>();
        FACE.forEach(line -> names.add(line.substring(line.indexOf(' ') + 1, line.indexOf('('))));
        for (Class<?> c : allClasses()) {
            int fields = 0;
            for (Field f : c.getDeclaredFields()) {
                boolean isStatic = Modifier.isStatic(f.getModifiers());
                fields += isStatic ? 0 : 1;
                Check.due("static means final: " + f, !isStatic || Modifier.isFinal(f.getModifiers()), true);
                Check.due("type of " + f, !isStatic || Set.of("int", "long", "boolean", "char", "String")
                    .contains(f.getType().getSimpleName()), true);
            }
            Check.due("at most twenty fields in " + c, fields <= 20, true);
            for (Method m : c.getDeclaredMethods()) {
                boolean isFace = c == ArrayText.class && Modifier.isPublic(m.getModifiers());
                Check.due("a name of the face: " + m, !isFace && names.contains(m.getName()), false);
                Check.due("at most seven parameters: " + m, m.getParameterCount() <= 7, true);
            }
        }
    }

    private static void source() throws Exception {
        String source = Files.readString(Path.of("src/main/java/ArrayText.java"));
        Check.due("signs 1 to 127", source.chars().allMatch(c -> c >= 1 && c <= 127), true);
        // Comments and texts may hold any word.
        String bare = source.replaceAll("(?s)/\\*.*?\\*/", "").replaceAll("//[^\n]*", "")
            .replaceAll("\"[^\"\n]*\"", "\"\"").replaceAll("'(\\\\.|[^'])'", "' '");
        String[] words = {"package ", "import ", "->", "::", "\\bfinally\\b", "\\bsynchronized\\b", "\\bassert\\b",
            "\\bcatch\\b", "\\bMath\\.", "\\bSystem\\.", "\\bThread\\b", "\\bObject\\b", "\\bvar\\b", "\\bhashCode\\b",
            "\\btoString\\b", "\\bequals\\b", "NaN", "\\bstatic \\{", " [/%] ", "[/%]="};
        for (String word : words) {
            Check.due("in the source: " + word, Pattern.compile(word).matcher(bare).find(), false);
        }
        Matcher thrown = Pattern.compile("throw\\b[^;]*").matcher(bare);
        while (thrown.find()) {
            Check.due("form of " + thrown.group(), thrown.group().matches("throw new (IllegalStateException"
                + "|IllegalArgumentException|IndexOutOfBoundsException|ArithmeticException"
                + "|UnsupportedOperationException)\\(\"\"\\)"), true);
        }
        methodsAreShort(bare);
    }

    private static void methodsAreShort(String bare) {
        int lines = 0;
        boolean inside = false;
        for (String line : bare.split("\n")) {
            boolean starts = line.matches(" {4}( {4})?[a-zA-Z].*\\) .*\\{") && !line.contains(" class ");
            inside = inside || starts;
            lines = starts ? 1 : lines + 1;
            boolean ends = inside && line.matches(" {4}( {4})?}");
            Check.due("lines up to " + line, !inside || lines <= 60, true);
            inside = inside && !ends;
        }
    }
}
