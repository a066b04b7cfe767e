/** The sentences of the terms on the errors, and on which of them comes first. */
final class ErrorSentences extends Cases {
    private static final String SIGNS = "+-*<>=&|,#";

    private ErrorSentences() { }

    static void all() {
        textErrors();
        shapeErrors();
        sizeErrors();
        noLines();
        rangeOfElements();
        rangeOnTheWay();
        partsFirst();
        shapeBeforeSize();
        anewInOrder();
    }

    private static void textErrors() {
        sentence("Terms", "ERRORS, the first kind that there is in the expression: TEXT (IllegalArgumentException) it is no expression.");
        refuses(TEXT, "", "a+", "1 ", "12345");
        String[] others = {"b+c", "d,1", "1#b", "a#1", "i0", "i25", "0#a", "0 1#a", "f*f", "/+f,1"};
        for (String other : others) {
            // Behind it, before it, around it.
            refuses(TEXT, other + "+", other + ")", other + " ", "a+(" + other, "+" + other, "aa" + other, "12345+" + other, "/" + other + "+",
                "(" + other + "),i", "(" + other + ")+(", "i+" + other, "()#" + other, "~-(" + other + "))");
        }
    }

    private static void shapeErrors() {
        sentence("Terms", "SHAPE (IllegalStateException) shapes that do not fit: element by element, a table joined, fewer elements than y in x # y, or x is not such a constant.");
        refuses(SHAPE, "b+c", "b-i3", "b*i5", "b<d", "d>b", "d=~d", "e&b", "c|b");
        refuses(SHAPE, "d,a", "a,d", "d,d");
        refuses(SHAPE, "3#b", "1 3#b", "5#d");
        refuses(SHAPE, "a#b", "(1,4)#b", "1 2 3#a");
        looks("b+i4", 4);
        looks("(/+d),a", 3);
        looks("4#b", 4);
        looks("1 4#b", table(1, 4));
        // Wherever it stands, and before any RANGE.
        refuses(SHAPE, "-b+c", "~b+c", "/+b+c", "\\+b+c", "(b+c)", "a+b+c", "(b+c)+a", "1,b+c", "24#b+c", "(f*f)+b+c", "(b+c)+f*f", "d,f*f", "1#i2*f*f");
    }

    private static void sizeErrors() {
        sentence("Terms", "SIZE (UnsupportedOperationException) a row or table (also i n) that would have no elements, or more than 24,");
        refuses(SIZE, "i0", "i25", "0#a", "25#a", "0 1#a", "1 0#a", "1 25#a", "25 1#a", "2 13#a", "13 2#a", "5 5#a", "3 9#a", "0 0#a");
        refuses(SIZE, "24 24#a", "25 0#a", "0 25#a", "9999 9999#a", "9999#a", "i9999", "24 2#a", "2 24#a", "4 7#a", "7 4#a");
        refuses(SIZE, "i12,i13", "e,1", "1,e", "e,e", "i23,1 2", "1 2,i23");
        looks("i1", 1);
        looks("i24", 24);
        looks("1#a", 1);
        looks("24#a", 24);
        looks("1 1#a", table(1, 1));
        looks("1 24#a", table(1, 24));
        looks("24 1#a", table(24, 1));
        looks("2 12#a", table(2, 12));
        looks("12 2#a", table(12, 2));
        looks("4 6#a", table(4, 6));
        looks("4 5#a", table(4, 5));
        looks("i12,i12", 24);
        looks("i12,i11", 23);
        looks("i23,1", 24);
        refuses(SIZE, "-i0", "~i0", "/+i0", "\\+i0", "(i0)", "a+i0", "(i0)+a", "1,i0", "(i0),1", "24#i0", "(f*f)+i0", "(i0)+f*f", "25#f*f", "e,f*f");
    }

    private static void noLines() {
        sentence("Terms", "or 0 lines.");
        refuses(SIZE, "0 1#a", "0 2#a", "0 24#a", "0 25#a", "0 9999#a", "00 3#a", "0000 0003#a", "(0 3)#a", "0 4#b");
        looks("1 1#a", table(1, 1));
        looks("1 2#a", table(1, 2));
        looks("1 24#a", table(1, 24));
    }

    private static void comesTo(double a, String text, double b, boolean isInRange) {
        Check c = new Check();
        c.object.put(0, a);
        c.object.put(1, b);
        due(text + " of " + a + " and " + b, c.text(text).run(2), isInRange ? "1" : RANGE);
    }

    private static void rangeOfElements() {
        sentence("Terms", "RANGE (ArithmeticException) an element,");
        double step = ABOVE - LIMIT;
        comesTo(LIMIT, "a+b", 0.0, true);
        comesTo(LIMIT, "a+b", step, false);
        comesTo(LIMIT, "a+b", -step, true);
        comesTo(INSIDE, "a+b", LIMIT - INSIDE, true);
        comesTo(-LIMIT, "a+b", -step, false);
        comesTo(-LIMIT, "a+b", step, true);
        comesTo(LIMIT, "a-b", -step, false);
        comesTo(LIMIT, "a-b", step, true);
        comesTo(-LIMIT, "a-b", step, false);
        comesTo(-LIMIT, "a-b", 0.0, true);
        comesTo(-LIMIT, "a-b", -step, true);
        comesTo(1e6, "a*b", 1e6, true);
        comesTo(1e6, "a*b", Math.nextDown(1e6), true);
        comesTo(1e6, "a*b", Math.nextUp(1e6), false);
        comesTo(-1e6, "a*b", 1e6, true);
        comesTo(-1e6, "a*b", Math.nextUp(1e6), false);
        comesTo(1e6, "a*b", -Math.nextUp(1e6), false);
        comesTo(-1e6, "a*b", -Math.nextUp(1e6), false);
        comesTo(LIMIT, "a*b", LIMIT, false);
        comesTo(LIMIT, "a*b", -LIMIT, false);
        comesTo(LIMIT, "a*b", 1.0, true);
        comesTo(LIMIT, "a*b", Math.nextUp(1.0), false);
        comesTo(LIMIT, "a<b", -LIMIT, true);
        comesTo(LIMIT, "a&b", LIMIT, true);
        comesTo(-LIMIT, "a|b", -LIMIT, true);
        // An element of any part of the expression, though the whole would be in range.
        outOfRange("f+1", 0);
        outOfRange("(f+1)-f", 0);
        outOfRange("0*f+1", 0);
        outOfRange("(f+1)*0", 0);
        outOfRange("0&f+1", 0);
        outOfRange("0<f+f", 0);
        outOfRange("a=f*f", 0);
        outOfRange("-f+1", 0);
        outOfRange("~f+1", 0);
        outOfRange("/&f+i2", 0);
        outOfRange("/&(2#f)+0 1", 0);
        outOfRange("\\&(2#f)+1 0", 2);
        outOfRange("(24#f)+i24", 24);
        outOfRange("(3 1#f)+3 1#0 0 1", 97);
        outOfRange("2#f+1", 2);
        outOfRange("1,f+1", 2);
        outOfRange("(f+1),1", 2);
        outOfRange("(f+1)+(-f)-1", 0);
        outOfRange("b+f", 4);
        outOfRange("(-f)-b", 4);
        works("f,f", "2: 1000000000000 1000000000000");
        works("f+0", "0: 1000000000000");
        works("(f-1)+1", "0: 1000000000000");
        works("(-f)+i2", "2: -1000000000000 -999999999999");
    }

    private static void rangeOnTheWay() {
        sentence("Terms", "or a result on the way of a reduction or run, above 1000000000000 or below -1000000000000.");
        for (String front : new String[] {"/", "\\"}) {
            boolean isRun = front.equals("\\");
            outOfRange(front + "+f,1", isRun ? 2 : 0);
            outOfRange(front + "+f,1,-1", isRun ? 3 : 0);
            outOfRange(front + "+1,f,-1", isRun ? 3 : 0);
            outOfRange(front + "+f,f,(-f),-f", isRun ? 4 : 0);
            outOfRange(front + "+-f,1,-1", isRun ? 3 : 0);
            outOfRange(front + "*g,g,2,0", isRun ? 4 : 0);
            outOfRange(front + "*g,(-g),2,0", isRun ? 4 : 0);
            outOfRange(front + "+2 2#f,f", isRun ? 66 : 2);
            outOfRange(front + "+2 3#1 2 3,f,1,0", isRun ? 67 : 2);
            outOfRange(front + "+(1 2#f)", isRun ? 34 : 1);
            outOfRange(front + "*2 2#1,1,f,2", isRun ? 66 : 2);
        }
        works("/+f,0", "0: 1000000000000");
        works("/+f,(-1),1", "0: 1000000000000");
        works("\\+f,(-1),1", "3: 1000000000000 999999999999 1000000000000");
        works("/*g,g,1", "0: 1000000000000");
        works("\\*g,(-g),1", "3: 1000000 -1000000000000 -1000000000000");
        works("/+(-f),0", "0: -1000000000000");
        works("/|f,f,-f", "0: 1000000000000");
        works("\\&f,(-f),f", "3: 1000000000000 -1000000000000 -1000000000000");
        // Lines are reduced each for itself.
        works("/+2 1#f", "2: 1000000000000 1000000000000");
        works("\\+2 1#f", "65: 1000000000000 1000000000000");
        works("/+2 2#f,h", "2: 1000000000000 1000000000000");
        double step = ABOVE - LIMIT;
        for (double x : new double[] {-step, 0.0, step}) {
            for (String text : new String[] {"/+a", "/+-a", "\\+a", "\\+-a", "/+1 3#a", "\\+3#a"}) {
                Check c = new Check().fill(0, 3, LIMIT, x, -step);
                String answer = c.text(text).run(1);
                due(text + " by way of the limit and " + x, answer.equals(RANGE), x > 0);
            }
        }
    }

    /** What an expression of two such parts comes to, by the document's order; the empty string for no error. */
    private static String comingFirst(String left, char sign, String right) {
        if (right.equals(SHAPE) || right.equals(SIZE)) {
            return right;
        }
        if (left.equals(SHAPE) || left.equals(SIZE)) {
            return left;
        }
        if (sign == '#') {
            return SHAPE;
        }
        return left.equals(RANGE) || right.equals(RANGE) ? RANGE : "";
    }

    private static void partsFirst() {
        sentence("Terms", "Of SHAPE and SIZE the one that is found first, if each expression is looked at after its parts, and of two parts the right one before the left one;");
        String[][] parts = {{"(a)", ""}, {"(b+c)", SHAPE}, {"(d,1)", SHAPE}, {"(a#1)", SHAPE}, {"(1#b)", SHAPE}, {"(i0)", SIZE}, {"(e,1)", SIZE},
            {"(0#a)", SIZE}, {"(2 0#a)", SIZE}, {"(f*f)", RANGE}};
        for (String[] left : parts) {
            for (String[] right : parts) {
                for (char sign : SIGNS.toCharArray()) {
                    String text = left[0] + sign + right[0];
                    String want = comingFirst(left[1], sign, right[1]);
                    if (want.equals(RANGE)) {
                        outOfRange(text, sign == ',' ? 2 : 0);
                    } else if (want.isEmpty()) {
                        looks(text, sign == ',' ? 2 : 0);
                    } else {
                        refuses(want, text);
                    }
                }
            }
        }
        // What stands inside before what stands around.
        refuses(SIZE, "d,i0", "(i0),d", "b+3#b,i24", "1#i25", "a#i0", "(i0)#a", "(i0)#b", "1 2 3#i0", "~d,i0", "b+c+i0", "(d,i0)+b");
        refuses(SHAPE, "e,b+c", "(b+c),e", "0#b+c", "25#1#b", "0#d,1", "0 0#a#1", "e,d,1", "(b+c)+a,b+c");
        // The right one before the left one, also when the left one is deep and comes first in the text.
        refuses(SIZE, "(((b+c)))+i0", "(b+c)+a+a+i0", "(b+c),(d,1),i0", "(d,d)+25#a");
        refuses(SHAPE, "(((i0)))+b+c", "(i0)+a+a+b+c", "(i0),(i25),d,1", "(25#a)+d,d");
        refuses(SIZE, "(b+c)+(a+i0)", "(a+b+c)+((i0)+a)", "((i0)+a)+(a+i0)+b+i4");
    }

    private static void shapeBeforeSize() {
        sentence("Terms", "in one expression SHAPE before SIZE,");
        refuses(SHAPE, "e,d", "d,e", "(24#a),1 1#a", "(1 1#a),i24", "(1 24#1),1 24#1", "e,1 24#1", "(24 1#a),a");
        refuses(SIZE, "e,a", "a,e", "e,e", "i24,c");
        refuses(SHAPE, "d,i18", "d,i19", "i18,d", "i19,d");
    }

    private static void anewInOrder() {
        sentence("Terms", "but in x # y first whether x is such a constant, then SIZE, then whether there are too few elements.");
        // No such constant, though its numbers would be no size or too few.
        refuses(SHAPE, "0 0 0#a", "0 0 0#b", "25 25 25#a", "1 1 1#b", "0 1 1#e", "h#a", "h#b", "(0+0)#a", "(0,0)#b", "(-1)#a", "(25+0)#a");
        // SIZE, though there would be too few elements.
        refuses(SIZE, "0#b", "0 3#b", "3 0#b", "0 0#b", "0#e", "0 5#d", "5 0#d", "0#1 2");
        refuses(SIZE, "25#b", "25#e", "1 25#e", "25 1#e", "5 5#e", "13 2#d");
        // Too few.
        refuses(SHAPE, "1#b", "3#b", "1 1#b", "3 1#b", "1 3#b", "23#e", "1 23#e", "23 1#e", "5#d");
        looks("4#b", 4);
        looks("24#e", 24);
        // Its parts before all of these.
        refuses(SIZE, "0 0 0#i0", "a#i25", "3#i25");
        refuses(SHAPE, "0#b+c", "25#d,1");
    }
}
