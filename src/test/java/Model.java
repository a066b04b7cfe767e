import java.util.ArrayList;
import java.util.List;
import java.util.regex.Matcher;
import java.util.regex.Pattern;

/**
 * The document written a second time, in another way than ArrayText: it cuts the text as strings,
 * and finds shapes and elements by recursion. Answers are strings, an exception its name behind "throws.".
 */
final class Model {
    private static final Pattern PART = Pattern.compile("[a-h]|i[0-9]{1,4}|[0-9]{1,4}( [0-9]{1,4})*");
    private static final double LIMIT = 1e12;

    /** lines 0: a row; lines and length 0: a number alone. */
    record Arr(int lines, int length, List<Double> elements) {
        int shape() {
            return 32 * lines + length;
        }
    }

    record Exp(String op, Exp left, Exp right) { }

    private final Arr[] variables = new Arr[8];
    private String text = "";
    private int made = 0;
    private int runs = 0;

    Model() {
        java.util.Arrays.fill(variables, alone(0));
    }

    String write(long chars) {
        StringBuilder more = new StringBuilder();
        for (long rest = chars; (rest & 255) != 0; rest >>>= 8) {
            more.append((char) (rest & 255));
        }
        boolean high = more.chars().anyMatch(c -> c > 127);
        if (high || text.length() + more.length() > 40) {
            return "-1";
        }
        text += more;
        return "" + more.length();
    }

    String erase() {
        int before = text.length();
        text = "";
        return "" + before;
    }

    String put(int v, double x) {
        if (!isVariable(v) || !inside(x)) {
            return "false";
        }
        variables[v] = alone(x);
        return "true";
    }

    String shape(int v, int shape) {
        if (!isVariable(v)) {
            return "false";
        }
        for (int lines = 0; lines <= 24; lines++) {
            for (int length = lines == 0 ? 0 : 1; length <= 24 && lines * length <= 24; length++) {
                if (32 * lines + length == shape) {
                    variables[v] = new Arr(lines, length, zeros(Math.max(lines, 1) * Math.max(length, 1)));
                    return "true";
                }
            }
        }
        return "false";
    }

    String set(int v, int i, double x) {
        if (!hasElement(v, i) || !inside(x)) {
            return "false";
        }
        List<Double> elements = new ArrayList<>(variables[v].elements());
        elements.set(i, x);
        variables[v] = new Arr(variables[v].lines(), variables[v].length(), elements);
        return "true";
    }

    String shapeOf(int v) {
        return isVariable(v) ? "" + variables[v].shape() : "-1";
    }

    String size(int v) {
        return isVariable(v) ? "" + variables[v].elements().size() : "-1";
    }

    String at(int v, int i) {
        return "" + (hasElement(v, i) ? variables[v].elements().get(i) + 0.0 : 0.0);
    }

    String run(int v) {
        if (!isVariable(v)) {
            return "throws.IndexOutOfBoundsException";
        }
        try {
            Exp whole = expression(text);
            shaped(whole);
            Arr result = worked(whole);
            variables[v] = result;
            made = madeBy(whole) + (makes(whole) ? 0 : 1);
            runs++;
            return "" + result.elements().size();
        } catch (RuntimeException e) {
            return "throws." + e.getClass().getSimpleName();
        }
    }

    String look() {
        try {
            Exp whole = expression(text);
            return "" + shaped(whole).shape();
        } catch (RuntimeException e) {
            return "throws." + e.getClass().getSimpleName();
        }
    }

    String made() {
        return "" + made;
    }

    String runs() {
        return "" + runs;
    }

    private static boolean isVariable(int v) {
        return 0 <= v && v <= 7;
    }

    private boolean hasElement(int v, int i) {
        return isVariable(v) && 0 <= i && i < variables[v].elements().size();
    }

    private static boolean inside(double x) {
        return Math.abs(x) <= LIMIT;
    }

    private static Arr alone(double x) {
        return new Arr(0, 0, List.of(x));
    }

    private static List<Double> zeros(int n) {
        return java.util.Collections.nCopies(n, 0.0);
    }

    private static Exp expression(String s) {
        if (s.startsWith("-") || s.startsWith("~")) {
            return new Exp("1" + s.charAt(0), null, expression(s.substring(1)));
        }
        if (s.matches("(?s)[/\\\\][+*&|].*")) {
            return new Exp("1" + s.substring(0, 2), null, expression(s.substring(2)));
        }
        int end = endOfPart(s);
        String part = s.substring(0, end);
        Exp left = part.startsWith("(") ? expression(part.substring(1, end - 1)) : new Exp(part, null, null);
        if (end == s.length()) {
            return left;
        }
        if ("+-*<>=&|,#".indexOf(s.charAt(end)) < 0) {
            throw new IllegalArgumentException("no sign");
        }
        return new Exp("2" + s.charAt(end), left, expression(s.substring(end + 1)));
    }

    private static int endOfPart(String s) {
        if (s.startsWith("(")) {
            int open = 0;
            for (int k = 0; k < s.length(); k++) {
                open += s.charAt(k) == '(' ? 1 : s.charAt(k) == ')' ? -1 : 0;
                if (open == 0) {
                    return k + 1;
                }
            }
            throw new IllegalArgumentException("open");
        }
        Matcher m = PART.matcher(s);
        if (!m.lookingAt()) {
            throw new IllegalArgumentException("no part");
        }
        return m.end();
    }

    private static boolean isConstant(Exp e) {
        return e.left() == null && e.right() == null && Character.isDigit(e.op().charAt(0));
    }

    private static boolean makes(Exp e) {
        return e.right() != null && (e.op().equals("2,") || e.op().matches("1([/\\\\].|~)"));
    }

    private static int madeBy(Exp e) {
        return e == null ? 0 : madeBy(e.left()) + madeBy(e.right()) + (makes(e) ? 1 : 0);
    }

    /** An array of zeros of the shape. */
    private Arr shaped(Exp e) {
        if (e.right() == null) {
            return leaf(e.op());
        }
        Arr y = shaped(e.right());
        Arr x = e.left() == null ? null : shaped(e.left());
        int lines = y.lines();
        int length = y.length();
        if (e.op().equals("1~")) {
            return lines == 0 ? y : blank(length, lines);
        }
        if (e.op().startsWith("1/")) {
            return lines == 0 ? alone(0) : blank(0, lines);
        }
        if (x == null) {
            return y;
        }
        if (e.op().equals("2,")) {
            stateUnless(x.lines() == 0 && lines == 0);
            return blank(0, sizeWithin(x.elements().size() + y.elements().size()));
        }
        if (e.op().equals("2#")) {
            stateUnless(isConstant(e.left()) && x.elements().size() <= 2);
            String[] numbers = e.left().op().split(" ");
            int last = Integer.parseInt(numbers[numbers.length - 1]);
            int first = numbers.length == 1 ? 1 : Integer.parseInt(numbers[0]);
            sizeWithin(first * last);
            stateUnless(first * last >= y.elements().size());
            return blank(numbers.length == 1 ? 0 : first, last);
        }
        stateUnless(x.shape() == y.shape() || x.shape() == 0 || y.shape() == 0);
        return x.shape() == 0 ? y : x;
    }

    private static void stateUnless(boolean fits) {
        if (!fits) {
            throw new IllegalStateException("shape");
        }
    }

    private static int sizeWithin(int n) {
        if (n < 1 || n > 24) {
            throw new UnsupportedOperationException("size");
        }
        return n;
    }

    private static Arr blank(int lines, int length) {
        return new Arr(lines, length, zeros(Math.max(lines, 1) * length));
    }

    private Arr leaf(String op) {
        if (op.startsWith("i")) {
            int n = sizeWithin(Integer.parseInt(op.substring(1)));
            List<Double> elements = new ArrayList<>();
            for (int k = 0; k < n; k++) {
                elements.add((double) k);
            }
            return new Arr(0, n, elements);
        }
        if (Character.isLetter(op.charAt(0))) {
            return variables[op.charAt(0) - 'a'];
        }
        List<Double> elements = new ArrayList<>();
        for (String number : op.split(" ")) {
            elements.add(Double.parseDouble(number));
        }
        return new Arr(0, elements.size() == 1 ? 0 : elements.size(), elements);
    }

    private Arr worked(Exp e) {
        if (e.right() == null) {
            return leaf(e.op());
        }
        Arr form = shaped(e);
        Arr y = worked(e.right());
        List<Double> ys = y.elements();
        List<Double> out = new ArrayList<>();
        char kind = e.op().charAt(1);
        if (e.left() != null) {
            List<Double> xs = worked(e.left()).elements();
            if (kind == ',') {
                out.addAll(xs);
                out.addAll(ys);
            } else {
                for (int k = 0; k < form.elements().size(); k++) {
                    double b = ys.get(k % ys.size());
                    out.add(kind == '#' ? b : two(kind, xs.get(k % xs.size()), b));
                }
            }
        } else if (kind == '-') {
            ys.forEach(b -> out.add(-b));
        } else if (kind == '~') {
            for (int k = 0; k < ys.size(); k++) {
                out.add(y.lines() == 0 ? ys.get(k) : ys.get(k % y.lines() * y.length() + k / y.lines()));
            }
        } else {
            int length = Math.max(y.length(), 1);
            for (int k = 0; k < ys.size(); k++) {
                double now = k % length == 0 ? ys.get(k) : two(e.op().charAt(2), out.get(out.size() - 1), ys.get(k));
                if (kind == '/' && k % length != 0) {
                    out.remove(out.size() - 1);
                }
                out.add(now);
            }
        }
        return new Arr(form.lines(), form.length(), out);
    }

    private static double two(char sign, double x, double y) {
        double z = switch (sign) {
            case '+' -> x + y;
            case '-' -> x - y;
            case '*' -> x * y;
            case '<' -> x < y ? 1.0 : 0.0;
            case '>' -> x > y ? 1.0 : 0.0;
            case '=' -> x == y ? 1.0 : 0.0;
            case '&' -> Math.min(x, y);
            case '|' -> Math.max(x, y);
            default -> throw new IllegalStateException("a sign that there is not");
        };
        if (!inside(z)) {
            throw new ArithmeticException("range");
        }
        return z;
    }
}
