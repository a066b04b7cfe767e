/** An object under test with short ways to call it, and the count of wrong answers of a test's run. */
final class Check {
    private static int wrong = 0;
    private static int asked = 0;
    private static String sentence = "";

    final ArrayText object = new ArrayText();

    /** Replaces the text; the object must take it whole. */
    Check text(String signs) {
        object.erase();
        for (int from = 0; from < signs.length(); from += 8) {
            String piece = signs.substring(from, Math.min(from + 8, signs.length()));
            due("write \"" + piece + "\"", object.write(packed(piece)), piece.length());
        }
        return this;
    }

    static long packed(String signs) {
        long chars = 0;
        for (int k = signs.length() - 1; k >= 0; k--) {
            chars = chars << 8 | signs.charAt(k);
        }
        return chars;
    }

    /** Variable v becomes an array of this shape with these elements first, zeros behind them. */
    Check fill(int v, int shape, double... elements) {
        due("shape(" + v + ", " + shape + ")", object.shape(v, shape), true);
        for (int i = 0; i < elements.length; i++) {
            due("set(" + v + ", " + i + ", " + elements[i] + ")", object.set(v, i, elements[i]), true);
        }
        return this;
    }

    String run(int v) {
        try {
            return String.valueOf(object.run(v));
        } catch (RuntimeException e) {
            return nameOf(e);
        }
    }

    String look() {
        try {
            return String.valueOf(object.look());
        } catch (RuntimeException e) {
            return nameOf(e);
        }
    }

    private static String nameOf(RuntimeException e) {
        return "throws." + e.getClass().getSimpleName();
    }

    /** Shape and elements of a variable, as "shape: element element ..". */
    String variable(int v) {
        StringBuilder all = new StringBuilder().append(object.shapeOf(v)).append(':');
        int size = object.size(v);
        for (int i = 0; i < size; i++) {
            // Added to 0, so that a negative 0 reads as the 0 that it equals.
            double x = object.at(v, i) + 0.0;
            all.append(' ').append(x == Math.rint(x) ? String.valueOf((long) x) : String.valueOf(x));
        }
        return all.toString();
    }

    /** All that can be seen of an object but the text. */
    String state() {
        StringBuilder all = new StringBuilder();
        for (int v = 0; v < 8; v++) {
            all.append(variable(v)).append("; ");
        }
        return all.append(object.made()).append(' ').append(object.runs()).toString();
    }

    /** What the text comes to: how it is seen in variable 7 after a run into it, or what the run throws. */
    String result(String signs) {
        String answer = text(signs).run(7);
        if (answer.startsWith("throws.")) {
            return answer;
        }
        due("elements by " + signs, answer, String.valueOf(object.size(7)));
        return variable(7);
    }

    /** All that can be seen of an object, the text too: by running it, erasing it and going on with another. */
    String everything() {
        StringBuilder all = new StringBuilder(state());
        all.append(" | look ").append(look());
        all.append(" | run ").append(run(7)).append(' ').append(variable(7));
        all.append(" | made ").append(object.made()).append(" runs ").append(object.runs());
        all.append(" | erase ").append(object.erase());
        all.append(" | then ").append(result("(a=a),1 2")).append(' ').append(look());
        all.append(" | made ").append(object.made()).append(" runs ").append(object.runs());
        return all.append(" | erase ").append(object.erase()).toString();
    }

    /** The answers from here on show this sentence of the document; it is told with each that is wrong. */
    static void sentence(String section, String words) {
        sentence = section + ", \"" + words + "\": ";
        Document.quote(section, words);
    }

    static void noSentence() {
        sentence = "";
    }

    static void due(String what, Object got, Object want) {
        asked++;
        if (!got.equals(want)) {
            wrong++;
            System.out.println(sentence + what + " answered " + got + ", due is " + want);
        }
    }

    static void end() {
        System.out.println(asked + " answers, " + wrong + " of them wrong");
        if (wrong != 0) {
            System.exit(1);
        }
    }
}
