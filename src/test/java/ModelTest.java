import java.util.ArrayList;
import java.util.List;
import java.util.Random;
import java.util.TreeMap;

/** Long runs of calls, the same each time, on an object and on the model: every answer must be the same. */
public final class ModelTest {
    private static final int OBJECTS = 4000;
    // A step makes at most some thirty calls, and behind the 512th nothing is promised.
    private static final int CALLS = 470;
    private static final String SIGNS = "++-**<>=&|,,#";
    private static final String[] FRONTS = {"-", "~", "/+", "/*", "/&", "/|", "\\+", "\\*", "\\&", "\\|"};
    private static final String FEW = "abi129( )+-,#~/\\";
    private static final String ANY = "aabcdefghi()0123456789 +-*<>=&|,#~/\\./j";

    private final Random random;
    private final Check check = new Check();
    private final Model model = new Model();
    private final List<String> said = new ArrayList<>();
    private static final TreeMap<String, Integer> seen = new TreeMap<>();

    private ModelTest(long seed) {
        random = new Random(seed);
    }

    public static void main(String[] args) {
        for (int k = 0; k < OBJECTS; k++) {
            new ModelTest(k).calls();
        }
        for (int length = 0; length <= 4; length++) {
            everyText("", length);
        }
        System.out.println(seen);
        everyOutcomeWasSeen();
        Check.end();
    }

    /** All texts of so many more of these signs, with a and b as a new object has them. */
    private static void everyText(String text, int more) {
        if (more == 0) {
            Model model = new Model();
            model.write(Check.packed(text));
            Check.due("look at " + text, new Check().text(text).look(), model.look());
            return;
        }
        for (char sign : FEW.toCharArray()) {
            everyText(text + sign, more - 1);
        }
    }

    /** Or the runs would show less than they seem to. */
    private static void everyOutcomeWasSeen() {
        String[] wanted = {"works", "throws.IndexOutOfBoundsException", "throws.IllegalArgumentException",
            "throws.IllegalStateException", "throws.UnsupportedOperationException", "throws.ArithmeticException"};
        for (String outcome : wanted) {
            Check.due("often enough " + outcome, seen.getOrDefault(outcome, 0) > 500, true);
        }
    }

    private void calls() {
        boolean right = true;
        while (right && said.size() < CALLS) {
            right = random.nextInt(4) == 0 ? newText() : call();
        }
    }

    /** Erases and writes, mostly an expression. */
    private boolean newText() {
        boolean right = same("erase()", String.valueOf(check.object.erase()), model.erase());
        String text = someText();
        for (int from = 0; right && from < text.length(); from += 8) {
            right = write(Check.packed(text.substring(from, Math.min(from + 8, text.length()))));
        }
        return right;
    }

    private boolean write(long chars) {
        return same("write(" + chars + ")", String.valueOf(check.object.write(chars)), model.write(chars));
    }

    private boolean call() {
        int v = random.nextInt(20) == 0 ? random.nextInt(5) * 5 - 7 : random.nextInt(8);
        int i = random.nextInt(3) == 0 ? random.nextInt(28) - 2 : random.nextInt(3);
        double x = someNumber();
        switch (random.nextInt(14)) {
            case 0: return same("put(" + v + ", " + x + ")", String.valueOf(check.object.put(v, x)), model.put(v, x));
            case 1: {
                int shape = someShape();
                return same("shape(" + v + ", " + shape + ")", String.valueOf(check.object.shape(v, shape)), model.shape(v, shape));
            }
            case 2: case 3: case 4:
                return same("set(" + v + ", " + i + ", " + x + ")", String.valueOf(check.object.set(v, i, x)), model.set(v, i, x));
            case 5: return same("shapeOf(" + v + ")", String.valueOf(check.object.shapeOf(v)), model.shapeOf(v));
            case 6: return same("size(" + v + ")", String.valueOf(check.object.size(v)), model.size(v));
            case 7: return same("at(" + v + ", " + i + ")", String.valueOf(check.object.at(v, i) + 0.0), model.at(v, i));
            case 8: return same("made()", String.valueOf(check.object.made()), model.made());
            case 9: return same("runs()", String.valueOf(check.object.runs()), model.runs());
            case 10: return same("look()", check.look(), model.look());
            case 11: return random.nextInt(4) > 0 || write(random.nextInt(3) == 0 ? random.nextLong() : random.nextLong() & 0x7F7F7F7FL);
            default: return runAndAsk(v);
        }
    }

    private boolean runAndAsk(int v) {
        String want = model.run(v);
        seen.merge(want.startsWith("throws.") ? want : "works", 1, Integer::sum);
        return same("run(" + v + ")", check.run(v), want)
            && sameVariable(v)
            && same("made()", String.valueOf(check.object.made()), model.made());
    }

    private boolean sameVariable(int v) {
        if (!same("shapeOf(" + v + ")", String.valueOf(check.object.shapeOf(v)), model.shapeOf(v))) {
            return false;
        }
        for (int i = 0; i < Integer.parseInt(model.size(v)); i++) {
            if (!same("at(" + v + ", " + i + ")", String.valueOf(check.object.at(v, i) + 0.0), model.at(v, i))) {
                return false;
            }
        }
        return true;
    }

    private boolean same(String call, String got, String want) {
        said.add(call);
        if (!got.equals(want)) {
            System.out.println(said);
        }
        Check.due(call, got, want);
        return got.equals(want);
    }

    private double someNumber() {
        switch (random.nextInt(16)) {
            case 0: case 1: return 1e12;
            case 2: case 3: return -1e12;
            case 4: return Math.nextUp(1e12);
            case 5: case 6: return random.nextInt(9) == 0 ? Double.NaN : 1e6;
            case 7: case 8: return random.nextInt(9) == 0 ? Double.NEGATIVE_INFINITY : -999999.5;
            case 9: return random.nextDouble() * 10;
            default: return random.nextInt(11) - 5;
        }
    }

    private int someShape() {
        switch (random.nextInt(5)) {
            case 0: return random.nextInt(28) - 1;
            case 1: return random.nextInt(900);
            case 2: return 32 * (1 + random.nextInt(4)) + 1 + random.nextInt(4);
            default: return random.nextInt(4);
        }
    }

    private String someText() {
        StringBuilder text = new StringBuilder();
        if (random.nextInt(25) == 0) {
            for (int k = random.nextInt(12); k > 0; k--) {
                text.append(ANY.charAt(random.nextInt(ANY.length())));
            }
            return text.toString();
        }
        expression(text, 1 + random.nextInt(4));
        for (int k = random.nextInt(12) == 0 ? 1 + random.nextInt(2) : 0; k > 0; k--) {
            spoil(text);
        }
        return text.toString();
    }

    private void spoil(StringBuilder text) {
        int place = random.nextInt(text.length());
        char sign = ANY.charAt(random.nextInt(ANY.length()));
        switch (random.nextInt(3)) {
            case 0: text.setCharAt(place, sign); break;
            case 1: text.insert(place, sign); break;
            default: if (text.length() > 1) { text.deleteCharAt(place); } break;
        }
    }

    private void expression(StringBuilder text, int depth) {
        int kind = random.nextInt(10);
        if (depth > 0 && kind < 3) {
            text.append(FRONTS[random.nextInt(FRONTS.length)]);
            expression(text, depth - 1);
            return;
        }
        if (depth > 0 && kind < 5) {
            anew(text, depth);
            return;
        }
        part(text, depth);
        if (depth > 0 && kind < 9) {
            text.append(SIGNS.charAt(random.nextInt(SIGNS.length())));
            expression(text, depth - 1);
        }
    }

    private void anew(StringBuilder text, int depth) {
        String wanted = random.nextInt(2) == 0 ? String.valueOf(random.nextInt(27))
            : random.nextInt(6) + " " + random.nextInt(8);
        text.append(random.nextInt(4) == 0 ? "((" + wanted + "))" : wanted).append('#');
        expression(text, depth - 1);
    }

    private void part(StringBuilder text, int depth) {
        switch (random.nextInt(6)) {
            case 0: case 1: text.append((char) ('a' + random.nextInt(8))); break;
            case 2: text.append(random.nextInt(12)); break;
            case 3: constantRow(text); break;
            case 4: text.append('i').append(random.nextInt(3) == 0 ? random.nextInt(27) : random.nextInt(4)); break;
            default:
                text.append('(');
                expression(text, depth - 1);
                text.append(')');
        }
    }

    private void constantRow(StringBuilder text) {
        text.append(random.nextInt(10000));
        for (int k = 1 + random.nextInt(3); k > 0; k--) {
            text.append(' ').append(random.nextInt(10));
        }
    }
}
