import java.util.List;

/** The sentences of the terms on shapes and on what is worked out. */
final class WorkSentences extends Cases {
    private static final String EACH = "+-*<>=&|";
    private static final String FOLDING = "+*&|";

    private WorkSentences() { }

    static void all() {
        sumsAndProducts();
        comparisons();
        lesserAndGreater();
        sameShape();
        goesWithEach();
        negatives();
        joins();
        joinedRows();
        shapesAnewByConstant();
        shapesAnewByOneOrTwo();
        fromTheFirstAgain();
        atLeastAsMany();
        counts();
        turns();
        reducesNumberAlone();
        reducesRow();
        reducesTable();
        runsKeepShape();
        runsAlong();
    }

    /** The one element of "a sign b" with these two. */
    private static void two(double a, char sign, double b, double want) {
        Check c = new Check();
        c.object.put(0, a);
        c.object.put(1, b);
        due(a + " " + sign + " " + b, c.text("a" + sign + "b").run(2), "1");
        due(a + " " + sign + " " + b, c.object.at(2, 0) + 0.0, want + 0.0);
    }

    private static void sumsAndProducts() {
        sentence("Terms", "SHAPES, and what is worked out. ELEMENT BY ELEMENT: x + y, x - y, x * y;");
        double[] numbers = {0.0, 1.0, -1.0, 0.1, 0.2, -7.5, 999999.5, Double.MIN_VALUE, 1.0 / 3.0};
        for (double a : numbers) {
            for (double b : numbers) {
                two(a, '+', b, a + b);
                two(a, '-', b, a - b);
                two(a, '*', b, a * b);
            }
        }
        two(5.0, '-', 3.0, 2.0);
        two(3.0, '-', 5.0, -2.0);
    }

    private static void comparisons() {
        sentence("Terms", "x < y, x > y, x = y (1 if so, else 0);");
        for (double b : new double[] {1.0, -1.0, 0.1 + 0.2, 1e-300, INSIDE, -INSIDE}) {
            double before = Math.nextDown(b);
            double behind = Math.nextUp(b);
            two(before, '<', b, 1.0);
            two(b, '<', b, 0.0);
            two(behind, '<', b, 0.0);
            two(before, '>', b, 0.0);
            two(b, '>', b, 0.0);
            two(behind, '>', b, 1.0);
            two(before, '=', b, 0.0);
            two(b, '=', b, 1.0);
            two(behind, '=', b, 0.0);
        }
        two(0.0, '=', -0.0, 1.0);
        two(-0.0, '<', 0.0, 0.0);
        two(0.0, '>', -0.0, 0.0);
        two(-LIMIT, '<', LIMIT, 1.0);
    }

    private static void lesserAndGreater() {
        sentence("Terms", "x & y the lesser, x | y the greater of two:");
        for (double b : new double[] {1.0, -1.0, 0.3, INSIDE, -INSIDE}) {
            for (double a : new double[] {Math.nextDown(b), b, Math.nextUp(b), -b, 0.0}) {
                two(a, '&', b, Math.min(a, b));
                two(a, '|', b, Math.max(a, b));
            }
        }
        two(LIMIT, '|', -LIMIT, LIMIT);
        two(LIMIT, '&', -LIMIT, -LIMIT);
    }

    private static void sameShape() {
        sentence("Terms", "x and y must have the same shape, or one of them is a number alone,");
        List<Integer> shapes = everyShape();
        for (int x : shapes) {
            for (int y : shapes) {
                Check c = new Check();
                c.object.shape(0, x);
                c.object.shape(1, y);
                boolean fits = x == y || x == 0 || y == 0;
                // Each sign meets each pair's near ones, one of them every pair.
                boolean isNear = Math.abs(x - y) <= 2 || sizeOf(x) == sizeOf(y);
                for (char sign : (isNear ? EACH : EACH.substring(x % 8, x % 8 + 1)).toCharArray()) {
                    String want = fits ? String.valueOf(x == 0 ? y : x) : SHAPE;
                    due("shapes " + x + " " + sign + " " + y, c.text("a" + sign + "b").look(), want);
                }
            }
        }
        for (char sign : EACH.toCharArray()) {
            refuses(SHAPE, "b" + sign + "i3", "b" + sign + "i5", "i3" + sign + "b", "b" + sign + "c", "c" + sign + "b", "d" + sign + "~d",
                "d" + sign + "i6", "(6#1)" + sign + "d", "(1 1#1)" + sign + "c", "c" + sign + "1 1#1", "(1 4#1)" + sign + "b");
        }
    }

    private static void goesWithEach() {
        sentence("Terms", "which goes with each element of the other.");
        works("10+b", "4: 11.5 12 9.5 14");
        works("b+10", "4: 11.5 12 9.5 14");
        works("10-b", "4: 8.5 8 10.5 6");
        works("b-10", "4: -8.5 -8 -10.5 -6");
        works("2*d", "67: 2 4 6 8 10 12");
        works("d>3", "67: 0 0 0 1 1 1");
        works("3<d", "67: 0 0 0 1 1 1");
        works("d=6", "67: 0 0 0 0 0 1");
        works("d&2", "67: 1 2 2 2 2 2");
        works("2|d", "67: 2 2 3 4 5 6");
        works("1+c", "1: 6");
        works("c-1", "1: 4");
        works("e+1", "24:" + " 1".repeat(24));
        works("1 2 3 4-b", "4: -0.5 0 3.5 0");
        works("d-d", "67: 0 0 0 0 0 0");
        works("d*2 3#1 10", "67: 1 20 3 40 5 60");
    }

    private static void negatives() {
        sentence("Terms", "- x: each element's negative.");
        works("-a", "0: -3");
        works("-b", "4: -1.5 -2 0.5 -4");
        works("-d", "67: -1 -2 -3 -4 -5 -6");
        works("-h", "0: 0");
        works("--b", "4: 1.5 2 -0.5 4");
        works("-f", "0: -1000000000000");
        works("-c", "1: -5");
        works("-i24", "24: 0 -1 -2 -3 -4 -5 -6 -7 -8 -9 -10 -11 -12 -13 -14 -15 -16 -17 -18 -19 -20 -21 -22 -23");
        for (int shape : everyShape()) {
            due("shape of - " + shape, new Check().fill(0, shape).text("-a").look(), String.valueOf(shape));
        }
    }

    private static void joins() {
        sentence("Terms", "x , y JOINS: numbers alone and rows, not tables:");
        for (int x : everyShape()) {
            for (int y : everyShape()) {
                Check c = new Check();
                c.object.shape(0, x);
                c.object.shape(1, y);
                int count = sizeOf(x) + sizeOf(y);
                String want = isTable(x) || isTable(y) ? SHAPE : count > 24 ? SIZE : String.valueOf(count);
                due("shapes " + x + " , " + y, c.text("a,b").look(), want);
            }
        }
        refuses(SHAPE, "d,1", "1,d", "d,d", "(1 1#1),1", "1,1 1#1", "(1 1#1),1 1#1", "(1 3#1),i3", "(3 1#1),i3", "c,~d");
        looks("(/+d),1", 3);
        looks("(1#1),1", 2);
        looks("c,c", 2);
    }

    private static void joinedRows() {
        sentence("Terms", "a row of x's elements and then y's.");
        works("1,2", "2: 1 2");
        works("2,1", "2: 2 1");
        works("a,b", "5: 3 1.5 2 -0.5 4");
        works("b,a", "5: 1.5 2 -0.5 4 3");
        works("c,c", "2: 5 5");
        works("c,a", "2: 5 3");
        works("b,7 8", "6: 1.5 2 -0.5 4 7 8");
        works("1,2,3", "3: 1 2 3");
        works("(1,2),3", "3: 1 2 3");
        works("9,i22", "23: 9 0 1 2 3 4 5 6 7 8 9 10 11 12 13 14 15 16 17 18 19 20 21");
        works("9,i23", "24: 9 0 1 2 3 4 5 6 7 8 9 10 11 12 13 14 15 16 17 18 19 20 21 22");
        works("i23,9", "24: 0 1 2 3 4 5 6 7 8 9 10 11 12 13 14 15 16 17 18 19 20 21 22 9");
        refuses(SIZE, "9,i24", "i24,9", "i12,i13", "e,e");
    }

    private static void shapesAnewByConstant() {
        sentence("Terms", "x # y SHAPES ANEW: x must be a constant (parentheses around it mean nothing)");
        works("2#7", "2: 7 7");
        works("(2)#7", "2: 7 7");
        works("((2))#7", "2: 7 7");
        works("(((2 2)))#7", "66: 7 7 7 7");
        refuses(SHAPE, "a#7", "(a)#7", "c#7", "b#7", "d#7", "h#7", "i2#7", "(i2)#7", "(1+1)#7", "(-2)#7", "(--2)#7", "(~2)#7", "(/+2)#7",
            "(\\+2)#7", "(2,2)#7", "(2#2)#7", "(1#2)#7", "((2)+0)#7", "(~2 2)#7");
        works("-2#7", "2: -7 -7");
        works("2#2#7", "2: 7 7");
    }

    private static void shapesAnewByOneOrTwo() {
        sentence("Terms", "of one number (a row of so many) or two (a table of lines and elements):");
        works("1#7", "1: 7");
        works("3#7", "3: 7 7 7");
        works("1 1#7", "33: 7");
        works("1 3#7", "35: 7 7 7");
        works("3 1#7", "97: 7 7 7");
        works("2 3#i6", "67: 0 1 2 3 4 5");
        works("3 2#i6", "98: 0 1 2 3 4 5");
        refuses(SHAPE, "1 1 1#7", "2 3 4#7", "(1 1 1)#7", "1 1 1 1#7");
        for (int n = 0; n <= 40; n++) {
            looksOrRefuses(n + "#7", n >= 1 && n <= 24, n);
            for (int m = 0; m <= 40; m++) {
                looksOrRefuses(n + " " + m + "#7", n >= 1 && m >= 1 && n * m <= 24, table(n, m));
            }
        }
    }

    private static void looksOrRefuses(String text, boolean isThere, int shape) {
        due("look at " + text, new Check().text(text).look(), isThere ? String.valueOf(shape) : SIZE);
    }

    private static void fromTheFirstAgain() {
        sentence("Terms", "its elements are y's in order, from the first again when they are used up;");
        for (int shape : everyShape()) {
            for (int count = sizeOf(shape); count <= 24; count++) {
                Check c = new Check();
                c.object.shape(0, shape);
                StringBuilder want = new StringBuilder().append(count).append(':');
                for (int i = 0; i < sizeOf(shape); i++) {
                    c.object.set(0, i, i + 1);
                }
                for (int k = 0; k < count; k++) {
                    want.append(' ').append(k % sizeOf(shape) + 1);
                }
                due(count + " of shape " + shape, c.result(count + "#a"), want.toString());
            }
        }
        works("2 3#1 2", "67: 1 2 1 2 1 2");
        works("3 3#1 2 3 4", "99: 1 2 3 4 1 2 3 4 1");
        works("4 6#1 2", "134:" + " 1 2".repeat(12));
        works("3 2#d", "98: 1 2 3 4 5 6");
    }

    private static void atLeastAsMany() {
        sentence("Terms", "it must have at least as many elements as y.");
        for (int shape : everyShape()) {
            int size = sizeOf(shape);
            for (int count = 1; count <= 24; count++) {
                Check c = new Check().fill(0, shape);
                due(count + "#" + shape, c.text(count + "#a").look(), count < size ? SHAPE : String.valueOf(count));
                due("1 " + count + "#" + shape, c.text("1 " + count + "#a").look(), count < size ? SHAPE : String.valueOf(table(1, count)));
            }
        }
        refuses(SHAPE, "3#b", "1 3#b", "3 1#b", "1 1#b", "5#d", "1 5#d", "2 2#d", "23#e", "1 23#e", "5 4#e", "11 2#e", "1#1 2");
        looks("4#b", 4);
        looks("2 2#b", table(2, 2));
        looks("5#b", 5);
        looks("6#d", 6);
        looks("1 6#d", table(1, 6));
        looks("7#d", 7);
        looks("24#e", 24);
        looks("12 2#e", table(12, 2));
    }

    private static void counts() {
        sentence("Terms", "i n is the row 0, 1, .., n - 1.");
        StringBuilder row = new StringBuilder();
        for (int n = 1; n <= 24; n++) {
            row.append(' ').append(n - 1);
            works("i" + n, n + ":" + row);
        }
        works("i01", "1: 0");
        works("i0002", "2: 0 1");
        for (int n = 0; n <= 9999; n++) {
            String want = n >= 1 && n <= 24 ? String.valueOf(n) : SIZE;
            due("look at i" + n, new Check().text("i" + n).look(), want);
        }
        refuses(SIZE, "i0", "i00", "i0000", "i25", "i0025", "i32", "i33", "i9999");
    }

    private static void turns() {
        sentence("Terms", "~ x TURNS: element j of line i of a table becomes element i of line j; others stay.");
        works("~a", "0: 3");
        works("~b", "4: 1.5 2 -0.5 4");
        works("~c", "1: 5");
        works("~d", "98: 1 4 2 5 3 6");
        works("~~d", "67: 1 2 3 4 5 6");
        works("~1 1#5", "33: 5");
        works("~1 3#i3", "97: 0 1 2");
        works("~3 1#i3", "35: 0 1 2");
        for (int shape : everyShape()) {
            Check c = numbered(shape);
            int lines = linesOf(shape);
            int length = lengthOf(shape);
            StringBuilder want = new StringBuilder().append(isTable(shape) ? table(length, lines) : shape).append(':');
            for (int j = 0; j < length; j++) {
                for (int i = 0; i < lines; i++) {
                    want.append(' ').append(i * length + j + 1);
                }
            }
            due("~ of shape " + shape, c.result("~a"), want.toString());
        }
    }

    /** a of this shape with the elements 1, 2, 3 and so on. */
    private static Check numbered(int shape) {
        Check c = new Check();
        c.object.shape(0, shape);
        for (int i = 0; i < sizeOf(shape); i++) {
            c.object.set(0, i, i + 1);
        }
        return c;
    }

    private static void reducesNumberAlone() {
        sentence("Terms", "/ and a sign, x REDUCES: a number alone stays;");
        for (char sign : FOLDING.toCharArray()) {
            works("/" + sign + "a", "0: 3");
            works("/" + sign + "-a", "0: -3");
            works("/" + sign + "f", "0: 1000000000000");
            works("/" + sign + "h", "0: 0");
        }
    }

    private static double folded(char sign, double x, double y) {
        switch (sign) {
            case '+': return x + y;
            case '*': return x * y;
            case '&': return Math.min(x, y);
            default: return Math.max(x, y);
        }
    }

    /** Rows whose sums and products show in which order they come about. */
    private static double[] row(int count) {
        double[] row = new double[count];
        for (int k = 0; k < count; k++) {
            row[k] = (k % 3 == 1 ? -1 : 1) * (0.1 + 0.7 * (k * 5 % 7)) / 3;
        }
        return row;
    }

    private static void reducesRow() {
        sentence("Terms", "a row becomes the number alone that comes of its first element, that and the second by the sign, that and the third, and so on;");
        for (char sign : FOLDING.toCharArray()) {
            works("/" + sign + "c", "0: 5");
            for (int count = 1; count <= 24; count++) {
                double[] row = row(count);
                double want = row[0];
                for (int k = 1; k < count; k++) {
                    want = folded(sign, want, row[k]);
                }
                Check c = new Check().fill(0, count, row);
                due("/" + sign + " of a row of " + count, c.text("/" + sign + "a").run(1), "1");
                due("/" + sign + " of a row of " + count, c.object.at(1, 0) + 0.0, want + 0.0);
                due("a number alone", c.object.shapeOf(1), 0);
            }
        }
        works("/+b", "0: 7");
        works("/*b", "0: -6");
        works("/&b", "0: -0.5");
        works("/|b", "0: 4");
        due("the order shows", (0.1 + 0.2) + 0.3 == 0.1 + (0.2 + 0.3), false);
        Check c = new Check().fill(0, 3, 0.1, 0.2, 0.3);
        c.text("/+a").run(1);
        due("from the first on", c.object.at(1, 0), (0.1 + 0.2) + 0.3);
    }

    private static void reducesTable() {
        sentence("Terms", "a table becomes the row of its lines' reductions.");
        works("/+d", "2: 6 15");
        works("/*d", "2: 6 120");
        works("/&d", "2: 1 4");
        works("/|d", "2: 3 6");
        // One line: a row of one, no number alone.
        works("/+1 3#i3", "1: 3");
        works("/+1 1#5", "1: 5");
        works("/+3 1#i3", "3: 0 1 2");
        refuses(SHAPE, "b+/+1 3#i3");
        for (int shape : everyShape()) {
            for (char sign : FOLDING.toCharArray()) {
                if (isTable(shape)) {
                    reducesLines(shape, sign);
                }
            }
        }
    }

    private static void reducesLines(int shape, char sign) {
        double[] all = row(sizeOf(shape));
        Check c = new Check().fill(0, shape, all);
        due("/" + sign + " of shape " + shape, c.text("/" + sign + "a").run(1), String.valueOf(linesOf(shape)));
        due("a row of its lines", c.object.shapeOf(1), linesOf(shape));
        for (int i = 0; i < linesOf(shape); i++) {
            double want = all[i * lengthOf(shape)];
            for (int j = 1; j < lengthOf(shape); j++) {
                want = folded(sign, want, all[i * lengthOf(shape) + j]);
            }
            due("line " + i, c.object.at(1, i), want);
        }
    }

    private static void runsKeepShape() {
        sentence("Terms", "\\ and a sign, x RUNS: the same shape;");
        for (int shape : everyShape()) {
            for (char sign : FOLDING.toCharArray()) {
                Check c = new Check().fill(0, shape).text("\\" + sign + "a");
                due("look at \\" + sign + " of " + shape, c.look(), String.valueOf(shape));
                due("run of \\" + sign + " of " + shape, c.run(1), String.valueOf(sizeOf(shape)));
                due("shape of \\" + sign + " of " + shape, c.object.shapeOf(1), shape);
            }
        }
        works("\\+a", "0: 3");
        works("\\*a", "0: 3");
        works("\\&-a", "0: -3");
        works("\\|c", "1: 5");
    }

    private static void runsAlong() {
        sentence("Terms", "element k of a row or of a line is the reduction of its elements 0 .. k.");
        works("\\+b", "4: 1.5 3.5 3 7");
        works("\\*b", "4: 1.5 3 -1.5 -6");
        works("\\&b", "4: 1.5 1.5 -0.5 -0.5");
        works("\\|b", "4: 1.5 2 2 4");
        works("\\+d", "67: 1 3 6 4 9 15");
        works("\\*d", "67: 1 2 6 4 20 120");
        works("\\+~d", "98: 1 5 2 7 3 9");
        for (int shape : everyShape()) {
            for (char sign : FOLDING.toCharArray()) {
                double[] all = row(sizeOf(shape));
                Check c = new Check().fill(0, shape, all);
                c.text("\\" + sign + "a").run(1);
                double want = 0;
                for (int k = 0; k < all.length; k++) {
                    want = k % lengthOf(shape) == 0 ? all[k] : folded(sign, want, all[k]);
                    due("element " + k + " of \\" + sign + " of " + shape, c.object.at(1, k), want);
                }
            }
        }
    }
}
