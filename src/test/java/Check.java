/** An object under test with short ways to call it, and the count of wrong answers of a test's run. */
final class Check {
    private static int wrong = 0;
    private static int asked = 0;

    final ArrayText object = new ArrayText();

    /** Replaces the text; the object must take it whole. */
    Check text(String signs) {
        object.erase();
        for (int from = 0; from < signs.length(); from += 8) {
            String piece = signs.substring(from, Math.min(from + 8, signs.length()));
            due("write \"" + piece + "\"", object.write(packed(piece)), piece.length());
        }
        return this;
    }

    static long packed(String signs) {
        long chars = 0;
        for (int k = signs.length() - 1; k >= 0; k--) {
            chars = chars << 8 | signs.charAt(k);
        }
        return chars;
    }

    String run(int v) {
        try {
            return String.valueOf(object.run(v));
        } catch (RuntimeException e) {
            return nameOf(e);
        }
    }

    String look() {
        try {
            return String.valueOf(object.look());
        } catch (RuntimeException e) {
            return nameOf(e);
        }
    }

    private static String nameOf(RuntimeException e) {
        return "throws." + e.getClass().getSimpleName();
    }

    /** Shape and elements of a variable, as "shape: element element ..". */
    String variable(int v) {
        StringBuilder all = new StringBuilder().append(object.shapeOf(v)).append(':');
        for (int i = 0; i < object.size(v); i++) {
            // Added to 0, so that a negative 0 reads as the 0 that it equals.
            double x = object.at(v, i) + 0.0;
            all.append(' ').append(x == Math.rint(x) ? String.valueOf((long) x) : String.valueOf(x));
        }
        return all.toString();
    }

    /** All that can be seen of an object but the text. */
    String state() {
        StringBuilder all = new StringBuilder();
        for (int v = 0; v < 8; v++) {
            all.append(variable(v)).append("; ");
        }
        return all.append(object.made()).append(' ').append(object.runs()).toString();
    }

    /** Runs the text into variable 7 and holds the result against what is due. */
    void works(String signs, String want) {
        text(signs);
        String answer = run(7);
        due("run of " + signs, answer.startsWith("throws.") ? answer : variable(7), want);
        if (!answer.startsWith("throws.")) {
            due("elements by " + signs, answer, String.valueOf(object.size(7)));
        }
    }

    /** Both run and look throw this for the text, and nothing changes by it. */
    void refuses(String signs, String exception) {
        text(signs);
        String before = state();
        due("look at " + signs, look(), "throws." + exception);
        due("run of " + signs, run(7), "throws." + exception);
        due("state after " + signs, state(), before);
        due("text after " + signs, object.erase(), signs.length());
    }

    static void due(String what, Object got, Object want) {
        asked++;
        if (!got.equals(want)) {
            wrong++;
            System.out.println(what + " answered " + got + ", due is " + want);
        }
    }

    static void end() {
        System.out.println(asked + " answers, " + wrong + " of them wrong");
        if (wrong != 0) {
            System.exit(1);
        }
    }
}
