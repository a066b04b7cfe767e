import java.util.List;

/** The sentences on arrays and variables: of the terms, and promises 1 and 4 to 9. */
final class ArraySentences extends Cases {
    private static final double[] IN_RANGE = {INSIDE, LIMIT, -INSIDE, -LIMIT, 0.0, Double.MIN_VALUE, 0.1, -7.25};
    private static final double[] TOO_FAR = {ABOVE, -ABOVE, 1e13, -1e13, Double.MAX_VALUE, -Double.MAX_VALUE,
        Double.POSITIVE_INFINITY, Double.NEGATIVE_INFINITY};

    private ArraySentences() { }

    static void all() {
        numbersAlone();
        rows();
        tables();
        linesAndElements();
        elementsOfTables();
        lineByLine();
        doubles();
        variables();
        newObjects();
        putInto();
        putNowhere();
        putTooFar();
        putNoNumber();
        shapeToZeros();
        shapeNowhere();
        shapeToNone();
        setElements();
        setNowhere();
        setNoElement();
        setTooFar();
        setNoNumber();
        shapesAsked();
        sizesAsked();
        elementsAsked();
        noElementsAsked();
    }

    private static void shapeIs(int shape, boolean isThere) {
        Check c = new Check().fill(0, 5, 1.0, 2.0, 3.0, 4.0, 5.0);
        String before = c.everything();
        c = new Check().fill(0, 5, 1.0, 2.0, 3.0, 4.0, 5.0);
        due("shape(0, " + shape + ")", c.object.shape(0, shape), isThere);
        if (isThere) {
            due("shapeOf of " + shape, c.object.shapeOf(0), shape);
            due("size of " + shape, c.object.size(0), sizeOf(shape));
        } else {
            due("all that is seen after " + shape, c.everything(), before);
        }
    }

    private static void numbersAlone() {
        sentence("Terms", "An ARRAY is a NUMBER alone (shape 0),");
        shapeIs(-1, false);
        shapeIs(0, true);
        shapeIs(1, true);
        Check c = new Check();
        c.object.shape(0, 0);
        due("a number alone goes with each", c.result("a+1 2"), "2: 1 2");
        c.object.shape(0, 1);
        due("a row of one does not", c.result("a+1 2"), SHAPE);
    }

    private static void rows() {
        sentence("Terms", "a ROW of 1 .. 24 elements (shape: how many),");
        for (int row = 1; row <= 24; row++) {
            shapeIs(row, true);
            Check c = new Check();
            c.object.shape(0, row);
            due("its last", c.object.set(0, row - 1, 4.0), true);
            due("behind its last", c.object.set(0, row, 4.0), false);
            due("look at it", c.text("a").look(), String.valueOf(row));
        }
        for (int row = 25; row <= 32; row++) {
            shapeIs(row, false);
        }
    }

    private static void tables() {
        sentence("Terms", "or a TABLE of r lines of c elements (shape 32 * r + c),");
        for (int shape : everyShape()) {
            shapeIs(shape, true);
            if (isTable(shape)) {
                Check c = new Check();
                c.object.shape(0, shape);
                due("as many lines in " + shape, c.result("/+a"), c.result(linesOf(shape) + "#0"));
                due("as many elements in " + shape, c.result("/+~a"), c.result(lengthOf(shape) + "#0"));
            }
        }
    }

    private static void linesAndElements() {
        sentence("Terms", "r and c 1 .. 24,");
        shapeIs(table(1, 23), true);
        shapeIs(table(1, 24), true);
        shapeIs(table(1, 25), false);
        shapeIs(table(23, 1), true);
        shapeIs(table(24, 1), true);
        shapeIs(table(25, 1), false);
        shapeIs(table(24, 0), false);
        shapeIs(table(24, 2), false);
        shapeIs(table(24, 24), false);
        for (int lines = 1; lines <= 40; lines++) {
            shapeIs(table(lines, 0), false);
            shapeIs(table(lines, 25), false);
            shapeIs(table(lines, 31), false);
        }
        for (int shape = -100; shape < 0; shape++) {
            shapeIs(shape, false);
        }
        for (int shape = table(24, 2); shape < table(70, 2); shape++) {
            shapeIs(shape, false);
        }
    }

    private static void elementsOfTables() {
        sentence("Terms", "r * c at most 24;");
        for (int lines = 1; lines <= 24; lines++) {
            int most = 24 / lines;
            if (most > 1) {
                shapeIs(table(lines, most - 1), true);
            }
            shapeIs(table(lines, most), true);
            for (int length = most + 1; length <= 31; length++) {
                shapeIs(table(lines, length), false);
            }
        }
    }

    private static void lineByLine() {
        sentence("Terms", "the elements of a table are counted line by line.");
        Check c = new Check().fill(0, table(2, 3), 1.0, 2.0, 3.0, 4.0, 5.0, 6.0);
        due("lines' sums", c.result("/+a"), "2: 6 15");
        due("as a row", c.result("6#a"), "6: 1 2 3 4 5 6");
        c.object.set(0, 2, 10.0);
        due("element 2 is the first line's last", c.result("/+a"), "2: 13 15");
        c.object.set(0, 3, 20.0);
        due("element 3 is the second line's first", c.result("/+a"), "2: 13 31");
        c.object.set(0, 5, 30.0);
        due("element 5 is the last line's last", c.result("/+~a"), "3: 21 7 40");
    }

    private static void doubles() {
        sentence("Terms", "Elements are doubles.");
        for (double x : IN_RANGE) {
            Check c = new Check();
            c.object.put(0, x);
            due("put " + x, c.object.at(0, 0), x);
            c.fill(1, 2, 0.0, x);
            due("set " + x, c.object.at(1, 1), x);
            c.text("a,b").run(2);
            due("run with " + x, c.object.at(2, 0), x);
        }
        Check c = new Check().fill(0, 2, 0.1, 0.2);
        c.text("/+a").run(1);
        due("0.1 and 0.2", c.object.at(1, 0), 0.1 + 0.2);
    }

    private static void variables() {
        sentence("Terms", "The VARIABLES 0 .. 7 hold arrays; their names are a to h.");
        Check c = new Check();
        for (int v = 0; v < 8; v++) {
            c.fill(v, 2 + v, 10.0 + v);
        }
        for (int v = 0; v < 8; v++) {
            due("look at the name of " + v, c.text(String.valueOf((char) ('a' + v))).look(), String.valueOf(2 + v));
            due("variable " + v + " holds its own", c.object.at(v, 0), 10.0 + v);
        }
        refuses(TEXT, "`", "i", "j", "A", "H");
        for (int v : NO_VARIABLES) {
            due("no variable " + v, c.object.shapeOf(v), -1);
        }
    }

    private static void newObjects() {
        sentence("Promise 1", "All variables hold the number 0; the text is empty; no run.");
        Check used = busy();
        Check c = new Check();
        for (int v = 0; v < 8; v++) {
            due("new variable " + v, c.variable(v), "0: 0");
            due("nothing behind it", c.object.at(v, 1), 0.0);
        }
        due("made", c.object.made(), 0);
        due("runs", c.object.runs(), 0);
        due("look at no text", c.look(), TEXT);
        due("run of no text", c.run(0), TEXT);
        due("erase", c.object.erase(), 0);
        due("40 characters find room", c.text("(((((((((((((((((((10)))))))))))))))))))").look(), "0");
        due("41 do not", c.object.write(' '), -1);
        due("one that was used is another", used.object.runs(), 1);
    }

    private static void putInto() {
        sentence("Promise 4", "Variable v becomes a number alone: true;");
        for (int v = 0; v < 8; v++) {
            for (int shape : List.of(0, 1, 24, table(1, 1), table(24, 1), table(4, 6))) {
                Check c = busy();
                Check other = busy();
                c.object.shape(v, shape);
                due("put(" + v + ", 2.5) over " + shape, c.object.put(v, 2.5), true);
                due("it is a number alone", c.variable(v), "0: 2.5");
                due("nothing behind it", c.object.at(v, 1), 0.0);
                other.object.put(v, 2.5);
                due("nothing else is changed", c.everything(), other.everything());
            }
        }
    }

    private static void putNowhere() {
        sentence("Promise 4", "false (nothing changes) if v is not 0 .. 7,");
        for (int v : NO_VARIABLES) {
            refused("put(" + v + ", 1)", x -> x.put(v, 1.0), false);
            refused("put(" + v + ", too far)", x -> x.put(v, ABOVE), false);
        }
        due("put(0, 1)", busy().object.put(0, 1.0), true);
        due("put(7, 1)", busy().object.put(7, 1.0), true);
    }

    private static void putTooFar() {
        sentence("Promise 4", "or x is above 1000000000000 or below -1000000000000,");
        for (int v = 0; v < 8; v++) {
            int into = v;
            for (double x : IN_RANGE) {
                Check c = busy();
                due("put(" + v + ", " + x + ")", c.object.put(v, x), true);
                due("it holds " + x, c.object.at(v, 0), x);
            }
            for (double x : TOO_FAR) {
                refused("put(" + v + ", " + x + ")", o -> o.put(into, x), false);
            }
        }
    }

    private static void putNoNumber() {
        sentence("Promise 4", "or no number.");
        for (int v = 0; v < 8; v++) {
            int into = v;
            refused("put(" + v + ", NaN)", o -> o.put(into, Double.NaN), false);
            refused("put(" + v + ", -NaN)", o -> o.put(into, -Double.NaN), false);
        }
    }

    private static void shapeToZeros() {
        sentence("Promise 5", "Variable v becomes an array of zeros with this shape, a number alone for 0: true;");
        for (int v = 0; v < 8; v++) {
            for (int shape : everyShape()) {
                Check c = new Check();
                c.text("24#7").run(v);
                due("shape(" + v + ", " + shape + ")", c.object.shape(v, shape), true);
                due("zeros", c.variable(v), shape + ":" + " 0".repeat(sizeOf(shape)));
                due("only there", c.variable((v + 1) % 8), "0: 0");
                due("the text stays", c.object.erase(), 4);
                due("made stays", c.object.made(), 1);
                due("runs stay", c.object.runs(), 1);
            }
        }
        Check c = new Check().fill(0, 4, 1.0, 2.0, 3.0, 4.0);
        c.object.shape(0, 2);
        c.object.shape(0, 4);
        due("a shorter one and a longer one", c.variable(0), "4: 0 0 0 0");
        due("the same shape", c.fill(0, 2, 8.0).fill(0, 2).variable(0), "2: 0 0");
    }

    private static void shapeNowhere() {
        sentence("Promise 5", "false (nothing changes) if v is not 0 .. 7");
        for (int v : NO_VARIABLES) {
            for (int shape : List.of(0, 1, 24, 33, 25)) {
                refused("shape(" + v + ", " + shape + ")", o -> o.shape(v, shape), false);
            }
        }
        due("shape(0, 1)", busy().object.shape(0, 1), true);
        due("shape(7, 1)", busy().object.shape(7, 1), true);
    }

    private static void shapeToNone() {
        sentence("Promise 5", "or there is no such shape.");
        int[] none = {-1, 25, 31, 32, 57, 64, 77, 64 + 32, 770, 801, 24 * 32 + 24, 1024 + 1, 65536, 65536 + 1, 1 << 30,
            (1 << 30) + 1, -32, -31, Integer.MIN_VALUE, Integer.MIN_VALUE + 1, Integer.MIN_VALUE + 33, Integer.MAX_VALUE};
        for (int shape : none) {
            for (int v = 0; v < 8; v++) {
                int into = v;
                refused("shape(" + v + ", " + shape + ")", o -> o.shape(into, shape), false);
            }
        }
    }

    private static void setElements() {
        sentence("Promise 6", "Element i of variable v becomes x: true;");
        for (int shape : everyShape()) {
            int v = shape % 8;
            for (int i = 0; i < sizeOf(shape); i++) {
                Check c = new Check();
                c.object.shape(v, shape);
                due("set(" + v + ", " + i + ") of " + shape, c.object.set(v, i, 2.5), true);
                String want = shape + ":" + " 0".repeat(i) + " 2.5" + " 0".repeat(sizeOf(shape) - i - 1);
                due("only this becomes it", c.variable(v), want);
                due("and no other variable", c.variable((v + 1) % 8), "0: 0");
            }
        }
    }

    private static void setNowhere() {
        sentence("Promise 6", "false (nothing changes) if v is not 0 .. 7,");
        for (int v : NO_VARIABLES) {
            refused("set(" + v + ", 0, 1)", o -> o.set(v, 0, 1.0), false);
        }
        due("set(0, 0, 1)", busy().object.set(0, 0, 1.0), true);
        due("set(7, 0, 1)", busy().object.set(7, 0, 1.0), true);
    }

    private static void setNoElement() {
        sentence("Promise 6", "it has no element i,");
        int[][] sizes = {{0, 1}, {1, 4}, {2, 1}, {3, 6}, {4, 24}, {5, 1}};
        for (int[] size : sizes) {
            int v = size[0];
            due("the first of " + v, busy().object.set(v, 0, 1.0), true);
            due("the last of " + v, busy().object.set(v, size[1] - 1, 1.0), true);
            for (int i : new int[] {-1, size[1], size[1] + 1, 24, 25, Integer.MIN_VALUE, Integer.MAX_VALUE}) {
                refused("set(" + v + ", " + i + ", 1)", o -> o.set(v, i, 1.0), false);
            }
        }
        Check c = new Check().fill(0, 3, 1.0, 2.0, 3.0);
        c.object.put(0, 9.0);
        due("no element 1 any more", c.object.set(0, 1, 5.0), false);
        due("a number alone", c.variable(0), "0: 9");
    }

    private static void setTooFar() {
        sentence("Promise 6", "or x is above 1000000000000 or below -1000000000000,");
        for (int v = 0; v < 8; v++) {
            int into = v;
            for (double x : IN_RANGE) {
                Check c = busy();
                due("set(" + v + ", 0, " + x + ")", c.object.set(v, 0, x), true);
                due("it holds " + x, c.object.at(v, 0), x);
            }
            for (double x : TOO_FAR) {
                refused("set(" + v + ", 0, " + x + ")", o -> o.set(into, 0, x), false);
            }
        }
    }

    private static void setNoNumber() {
        sentence("Promise 6", "or no number.");
        for (int v = 0; v < 8; v++) {
            int into = v;
            refused("set(" + v + ", 0, NaN)", o -> o.set(into, 0, Double.NaN), false);
        }
    }

    private static void shapesAsked() {
        sentence("Promise 7", "The shape of variable v; -1 if v is not 0 .. 7.");
        int[] shapes = {0, 4, 1, table(2, 3), 24, 0, 0, 0};
        for (int v = 0; v < 8; v++) {
            int asked = v;
            refused("shapeOf(" + v + ")", o -> o.shapeOf(asked), shapes[v]);
        }
        for (int v : NO_VARIABLES) {
            refused("shapeOf(" + v + ")", o -> o.shapeOf(v), -1);
        }
    }

    private static void sizesAsked() {
        sentence("Promise 8", "How many elements variable v has; -1 if v is not 0 .. 7.");
        int[] sizes = {1, 4, 1, 6, 24, 1, 1, 1};
        for (int v = 0; v < 8; v++) {
            int asked = v;
            refused("size(" + v + ")", o -> o.size(asked), sizes[v]);
        }
        for (int v : NO_VARIABLES) {
            refused("size(" + v + ")", o -> o.size(v), -1);
        }
        for (int shape : everyShape()) {
            due("size of " + shape, new Check().fill(7, shape).object.size(7), sizeOf(shape));
        }
    }

    private static void elementsAsked() {
        sentence("Promise 9", "Element i of variable v;");
        for (int shape : everyShape()) {
            int v = shape % 8;
            Check c = new Check();
            c.object.shape(v, shape);
            for (int i = 0; i < sizeOf(shape); i++) {
                c.object.set(v, i, i + 0.5);
            }
            for (int i = 0; i < sizeOf(shape); i++) {
                due("at(" + v + ", " + i + ") of " + shape, c.object.at(v, i), i + 0.5);
            }
            due("before the first", c.object.at(v, -1), 0.0);
            due("behind the last", c.object.at(v, sizeOf(shape)), 0.0);
        }
    }

    private static void noElementsAsked() {
        sentence("Promise 9", "0 if v is not 0 .. 7 or it has no element i.");
        for (int v : NO_VARIABLES) {
            for (int i : new int[] {0, 1, 24, -1}) {
                refused("at(" + v + ", " + i + ")", o -> o.at(v, i), 0.0);
            }
        }
        int[][] sizes = {{0, 1}, {1, 4}, {2, 1}, {3, 6}, {4, 24}};
        for (int[] size : sizes) {
            for (int i : new int[] {-1, size[1], 24, 25, Integer.MIN_VALUE, Integer.MAX_VALUE}) {
                refused("at(" + size[0] + ", " + i + ")", o -> o.at(size[0], i), 0.0);
            }
        }
        due("at(1, 3)", busy().object.at(1, 3), 4.0);
        // What a longer array held there before is not its element.
        Check c = new Check().fill(0, 4, 1.0, 2.0, 3.0, 4.0);
        c.object.put(0, 9.0);
        due("behind a number alone", c.object.at(0, 1), 0.0);
        c.text("i5,7").run(1);
        c.text("/+b").run(1);
        due("behind a reduction", c.object.at(1, 1), 0.0);
    }
}
