import java.util.ArrayList;
import java.util.List;
import java.util.function.Function;

/** What the tests share: objects with known variables, and the forms in which cases are told. */
abstract class Cases {
    static final String INDEX = "throws.IndexOutOfBoundsException";
    static final String TEXT = "throws.IllegalArgumentException";
    static final String SHAPE = "throws.IllegalStateException";
    static final String SIZE = "throws.UnsupportedOperationException";
    static final String RANGE = "throws.ArithmeticException";

    static final double LIMIT = 1000000000000.0;
    static final double INSIDE = Math.nextDown(LIMIT);
    static final double ABOVE = Math.nextUp(LIMIT);

    /** No variables, next to 0 and 7 and far from them. */
    static final int[] NO_VARIABLES = {-1, 8, 9, 256, Integer.MIN_VALUE, Integer.MAX_VALUE};

    static void sentence(String section, String words) {
        Check.sentence(section, words);
    }

    static void due(String what, Object got, Object want) {
        Check.due(what, got, want);
    }

    /** a 3; b 1.5 2 -0.5 4; c a row of one, 5; d 1 2 3 / 4 5 6; e a row of 24; f 1000000000000; g 1000000; h 0. */
    static Check prepared() {
        Check c = new Check();
        c.object.put(0, 3.0);
        c.fill(1, 4, 1.5, 2.0, -0.5, 4.0);
        c.fill(2, 1, 5.0);
        c.fill(3, table(2, 3), 1.0, 2.0, 3.0, 4.0, 5.0, 6.0);
        c.object.shape(4, 24);
        c.object.put(5, LIMIT);
        c.object.put(6, 1000000.0);
        return c;
    }

    /** A prepared one with a run that made two arrays, and with a text. */
    static Check busy() {
        Check c = prepared();
        c.text("(/+b),a").run(7);
        c.object.put(7, 0.0);
        return c;
    }

    /** A prepared one after a long run with 24 elements in each part, of which no later run may find any. */
    static Check worn() {
        Check c = prepared();
        c.text("-".repeat(35) + "24#77").run(7);
        c.object.put(7, 0.0);
        return c;
    }

    static int table(int lines, int length) {
        return 32 * lines + length;
    }

    /** All shapes that there are. */
    static List<Integer> everyShape() {
        List<Integer> all = new ArrayList<>();
        for (int row = 0; row <= 24; row++) {
            all.add(row);
        }
        for (int lines = 1; lines <= 24; lines++) {
            for (int length = 1; lines * length <= 24; length++) {
                all.add(table(lines, length));
            }
        }
        return all;
    }

    static boolean isTable(int shape) {
        return shape >= 32;
    }

    static int linesOf(int shape) {
        return isTable(shape) ? shape / 32 : 1;
    }

    static int lengthOf(int shape) {
        return shape == 0 ? 1 : shape % 32;
    }

    static int sizeOf(int shape) {
        return linesOf(shape) * lengthOf(shape);
    }

    static void works(String text, String want) {
        due("run of " + text, prepared().result(text), want);
        due("run of " + text + " after a long one", worn().result(text), want);
    }

    static void looks(String text, int shape) {
        due("look at " + text, prepared().text(text).look(), String.valueOf(shape));
    }

    /** Both look and run throw this for the text, and the object goes on as one that had neither call. */
    static void refuses(String exception, String... texts) {
        for (String text : texts) {
            throwsOnly(text, exception, exception);
        }
    }

    /** As refused, but look answers the shape. */
    static void outOfRange(String text, int shape) {
        throwsOnly(text, String.valueOf(shape), RANGE);
    }

    private static void throwsOnly(String text, String look, String run) {
        Check c = busy().text(text);
        due("look at " + text, c.look(), look);
        for (int v = 0; v < 8; v += 7) {
            due("run(" + v + ") of " + text, c.run(v), run);
        }
        due("all that is seen after " + text, c.everything(), busy().text(text).everything());
    }

    /** The call answers so on a busy object, and the object goes on as one that had no such call. */
    static void refused(String what, Function<ArrayText, Object> call, Object answer) {
        Check c = busy();
        due(what, call.apply(c.object), answer);
        due("all that is seen after " + what, c.everything(), busy().everything());
    }
}
