import java.util.List;

/** The sentences on runs: arrays made, of the terms, promises 10 to 13, and how many calls an object is used for. */
final class RunSentences extends Cases {
    private static final String[] NO_TEXTS = {"", "a+", "1 ", "(a", "12345", "i", "j"};
    private static final String[] NO_SHAPES = {"b+c", "d,1", "1#b", "a#1", "(i0)+b+c"};
    private static final String[] NO_SIZES = {"i0", "i25", "e,1", "0#a", "0 1#a", "(b+c)+i0"};
    private static final String[] TOO_FAR = {"f+1", "f*f", "/+f,1,-1", "0*f+1"};

    private RunSentences() { }

    static void all() {
        madeByEach();
        madeByWhole();
        worksOut();
        howMany();
        noVariable();
        noText();
        shapeAndSize();
        range();
        changesNothing();
        looksAtShape();
        looksAsRun();
        madeByLatest();
        madeByNone();
        runsCounted();
        callsOfAnObject();
    }

    private static void makes(String text, int arrays) {
        Check c = prepared();
        due("run of " + text + " throws", c.text(text).run(7).startsWith("throws."), false);
        due("made by " + text, c.object.made(), arrays);
    }

    private static void madeByEach() {
        sentence("Terms", "ARRAYS MADE by a run: one for each join, turn, reduction and run of the expression,");
        makes("1,2", 1);
        makes("1,2,3", 2);
        makes("(1,2),3", 2);
        makes("(1,2),3,4", 3);
        makes("~d", 1);
        makes("~~d", 2);
        makes("~~~d", 3);
        makes("/+b", 1);
        makes("/+/+d", 2);
        makes("\\*b", 1);
        makes("\\|\\&b", 2);
        makes("/+\\+~2 2#1,2", 4);
        for (String sign : new String[] {"+", "*", "&", "|"}) {
            makes("/" + sign + "b", 1);
            makes("\\" + sign + "b", 1);
            makes("1+/" + sign + "b", 2);
            makes("1+\\" + sign + "b", 2);
        }
        // Also where they leave what they work on as it is.
        makes("~a", 1);
        makes("~b", 1);
        makes("/+a", 1);
        makes("\\+a", 1);
        makes("~~a", 2);
        makes("/+/+a", 2);
        makes("1+~a", 2);
        makes("-/+c", 2);
        // None for the others.
        for (String sign : new String[] {"+", "-", "*", "<", ">", "=", "&", "|"}) {
            makes("a" + sign + "b" + sign + "a", 1);
            makes("/+a" + sign + "b", 1);
        }
        makes("~-d", 1);
        makes("~2 3#i6", 1);
        makes("/+(i4)-1 2 3 4", 1);
        makes("~~~~~~~~~~~~~~~~~~~~~~~~~~~~~~~~~~~~~~~d", 39);
        makes("1,1,1,1,1,1,1,1,1,1,1,1,1,1,1,1,1,1,1,12", 19);
    }

    private static void madeByWhole() {
        sentence("Terms", "and one more if the expression itself, as a whole, is none of these (parentheses around it mean nothing).");
        for (String text : new String[] {"a", "7", "1 2", "i3", "-b", "3#a", "2 3#i6", "a+b", "(a)", "((a+b))", "(((7)))", "-(a)", "(3)#a"}) {
            makes(text, 1);
        }
        for (String text : new String[] {"a,b", "~d", "/+b", "\\+b"}) {
            makes("(" + text + ")", 1);
            makes("((" + text + "))", 1);
            makes("-" + text, 2);
            makes("0+" + text, 2);
            makes("(" + text + ")+0", 2);
            makes("-(" + text + ")", 2);
            makes("((" + text + ")+0)", 2);
            makes("-((" + text + "))", 2);
            makes("~" + text, 2);
        }
        makes("24#1,2", 2);
        makes("(1,2)+3,4", 3);
        makes("(/+b)-/*b", 3);
        makes("(/+b),/*b", 3);
        makes("(~d)+~d", 3);
    }

    private static void worksOut() {
        sentence("Promise 10", "Works out the text (which stays), and variable v becomes the result:");
        for (int v = 0; v < 8; v++) {
            Check c = busy().text("20+1 2");
            Check other = busy();
            due("run(" + v + ")", c.run(v), "2");
            due("variable " + v, c.variable(v), "2: 21 22");
            for (int u = 0; u < 8; u++) {
                due("variable " + u + " after run(" + v + ")", u == v || c.variable(u).equals(other.variable(u)), true);
            }
            due("the text works again", c.run(v), "2");
            due("the text stays", c.object.erase(), 6);
        }
        // The variables of the text are those of before, v itself too.
        Check c = prepared().text("b,b");
        due("into b itself", c.run(1), "8");
        due("b twice", c.variable(1), "8: 1.5 2 -0.5 4 1.5 2 -0.5 4");
        due("again", c.run(1), "16");
        due("too many now", c.run(1), SIZE);
        due("b stays", c.object.size(1), 16);
        c.text("~d").run(3);
        due("a table into itself", c.variable(3), "98: 1 4 2 5 3 6");
        // The result is v's own.
        c.text("a").run(2);
        c.object.set(0, 0, 8.0);
        due("c keeps what a was", c.variable(2), "0: 3");
        c.object.set(2, 0, 9.0);
        due("a keeps what it is", c.variable(0), "0: 8");
        c.text("1 2").run(4);
        c.object.set(4, 0, 9.0);
        c.run(5);
        due("a constant stays itself", c.variable(5), "2: 1 2");
    }

    private static void howMany() {
        sentence("Promise 10", "how many elements it has.");
        String[][] rows = {{"a", "1"}, {"1#a", "1"}, {"1 1#a", "1"}, {"1 2", "2"}, {"i23", "23"}, {"i24", "24"}, {"24 1#a", "24"},
            {"1 24#a", "24"}, {"4 6#a", "24"}, {"23 1#a", "23"}, {"d", "6"}, {"/+d", "2"}, {"/+/+d", "1"}, {"i23,1", "24"}, {"e", "24"}};
        for (String[] row : rows) {
            Check c = prepared();
            due("run of " + row[0], c.text(row[0]).run(7), row[1]);
            due("size after it", String.valueOf(c.object.size(7)), row[1]);
        }
    }

    private static void noVariable() {
        sentence("Promise 10", "Throws, the first that applies: IndexOutOfBoundsException if v is not 0 .. 7;");
        String[][] all = {{"a", "b,1"}, NO_TEXTS, NO_SHAPES, NO_SIZES, TOO_FAR};
        for (String[] texts : all) {
            for (String text : texts) {
                for (int v : NO_VARIABLES) {
                    Check c = busy().text(text);
                    due("run(" + v + ") of " + text, c.run(v), INDEX);
                    due("all that is seen after it", c.everything(), busy().text(text).everything());
                }
            }
        }
        due("run(0)", busy().text("a").run(0), "1");
        due("run(7)", busy().text("a").run(7), "1");
    }

    private static void throwsFor(String exception, String... texts) {
        refuses(exception, texts);
        for (String text : texts) {
            for (int v = 0; v < 8; v++) {
                due("run(" + v + ") of " + text, busy().text(text).run(v), exception);
            }
        }
    }

    private static void noText() {
        sentence("Promise 10", "IllegalArgumentException for TEXT;");
        throwsFor(TEXT, NO_TEXTS);
        throwsFor(TEXT, "b+c+", "(i0", "f*f)", "i0 ", "1#b 1", "aa+b+c+f*f");
    }

    private static void shapeAndSize() {
        sentence("Promise 10", "IllegalStateException for SHAPE and UnsupportedOperationException for SIZE, whichever is found first;");
        throwsFor(SHAPE, NO_SHAPES);
        throwsFor(SIZE, NO_SIZES);
        throwsFor(SHAPE, "(i0)+b+c", "(i0)+f*b+c", "e,b+c", "e,d", "0 0 0#f*f");
        throwsFor(SIZE, "(b+c)+i0", "(b+c)+f*f*i0", "d,i0", "0#b", "(b+c),0#f*f");
    }

    private static void range() {
        sentence("Promise 10", "ArithmeticException for RANGE.");
        for (String text : TOO_FAR) {
            outOfRange(text, 0);
            for (int v = 0; v < 8; v++) {
                due("run(" + v + ") of " + text, busy().text(text).run(v), RANGE);
            }
        }
        throwsFor(SHAPE, "(f*f)+b+c", "(b+c)+f*f", "d,f*f", "(f*f)#a");
        throwsFor(SIZE, "(f*f)+i0", "(i0)+f*f", "e,f*f", "0#f*f");
        works("f+h", "0: 1000000000000");
    }

    /** A run that throws at its very end has had all else worked out before. */
    private static void changesNothing() {
        sentence("Promise 10", "What throws changes nothing.");
        String[][] all = {NO_TEXTS, NO_SHAPES, NO_SIZES, TOO_FAR, {"(f+1),b", "(f*f)+\\+e", "(2#f)+/+d", "(f+f)+~d"}};
        for (String[] texts : all) {
            for (String text : texts) {
                Check c = busy().text(text);
                for (int v = -1; v <= 8; v++) {
                    due("run(" + v + ") of " + text + " throws", c.run(v).startsWith("throws."), true);
                }
                due("all that is seen after runs of " + text, c.everything(), busy().text(text).everything());
            }
        }
        Check c = busy();
        due("a run between", c.text("f+1").run(0), RANGE);
        due("the next one works", c.result("1,2"), "2: 1 2");
        due("and counts", c.object.runs(), 2);
        due("an end of the text that was wrong", c.text("1+").run(0), TEXT);
        c.object.write('4');
        due("is mended by writing on", c.run(0), "1");
        due("1+4", c.variable(0), "0: 5");
    }

    private static void looksAtShape() {
        sentence("Promise 11", "The shape that the text has as an expression, with the variables as they are.");
        for (int shape : everyShape()) {
            Check c = busy();
            c.object.shape(7, shape);
            Check other = busy();
            other.object.shape(7, shape);
            due("look at h of " + shape, c.text("h").look(), String.valueOf(shape));
            due("look again", c.look(), String.valueOf(shape));
            due("nothing changes", c.everything(), other.text("h").everything());
        }
        Check c = prepared().text("a+i3");
        due("a number alone", c.look(), "3");
        c.object.shape(0, 3);
        due("a row of three", c.look(), "3");
        c.object.shape(0, 1);
        due("a row of one", c.look(), SHAPE);
        c.object.shape(0, table(1, 3));
        due("a table", c.look(), SHAPE);
        c.object.put(0, 1.0);
        due("a number alone again", c.look(), "3");
        due("no run", c.object.runs(), 0);
    }

    private static void looksAsRun() {
        sentence("Promise 11", "Throws as run(0), but nothing for RANGE.");
        String[][] all = {{"a", "b,1", "d", "i24"}, NO_TEXTS, NO_SHAPES, NO_SIZES};
        for (String[] texts : all) {
            for (String text : texts) {
                Check c = busy().text(text);
                String look = c.look();
                due("all that is seen after look at " + text, c.everything(), busy().text(text).everything());
                String run = busy().text(text).run(0);
                boolean isThrown = run.startsWith("throws.");
                due("look at " + text + " throws", look.startsWith("throws."), isThrown);
                due("look at " + text, isThrown ? look : run, run);
            }
        }
        for (String text : TOO_FAR) {
            outOfRange(text, 0);
        }
        outOfRange("b*f*f", 4);
        outOfRange("~(2 3#f)+1", 98);
        outOfRange("\\+24#f", 24);
        refuses(SHAPE, "d,f*f", "(f*f)+b+c");
        refuses(SIZE, "e,f*f");
        refuses(TEXT, "f*f+");
    }

    private static void madeByLatest() {
        sentence("Promise 12", "The arrays made by the latest run that threw nothing;");
        for (String text : List.of("1,2,3+", "(1,2),(3,4),b+c", "~~~i0", "~~~f*f", "~~~~b,d", "\\+\\+\\+\\+f,1")) {
            Check c = prepared();
            c.text("~~d").run(7);
            c.text(text);
            due("run of " + text + " throws", c.run(0).startsWith("throws."), true);
            due("made stays", c.object.made(), 2);
            c.look();
            due("made stays after look", c.object.made(), 2);
        }
        Check c = prepared();
        c.text("~~~d").run(7);
        due("three", c.object.made(), 3);
        due("no such variable", c.text("a").run(8), INDEX);
        due("still three", c.object.made(), 3);
        c.object.put(0, 1.0);
        c.object.shape(1, 3);
        c.object.set(1, 0, 2.0);
        due("still three then", c.object.made(), 3);
        due("asked again", c.object.made(), 3);
        c.run(0);
        due("one", c.object.made(), 1);
        c.text("1,2,3").look();
        due("look makes none", c.object.made(), 1);
        c.run(0);
        due("two", c.object.made(), 2);
        c.object.erase();
        due("two still", c.object.made(), 2);
    }

    private static void madeByNone() {
        sentence("Promise 12", "0 if there was none.");
        due("a new one", new Check().object.made(), 0);
        for (String text : new String[] {"", "1,2+", "~~b+c", "~i0", "~f*f"}) {
            Check c = prepared().text(text);
            c.look();
            c.run(0);
            c.run(8);
            due("after no run but of " + text, c.object.made(), 0);
        }
        Check c = prepared().text("1,2");
        c.look();
        due("after a look", c.object.made(), 0);
        c.run(-1);
        due("after a run into none", c.object.made(), 0);
        c.run(0);
        due("after a run", c.object.made(), 1);
    }

    private static void runsCounted() {
        sentence("Promise 13", "How many runs threw nothing since the beginning.");
        Check c = prepared();
        due("none", c.object.runs(), 0);
        String[] refusing = {"", "a+", "b+c", "i0", "f*f"};
        for (int count = 1; count <= 20; count++) {
            due("run " + count, c.text("a").run(count % 8 == 0 ? 7 : 0), "1");
            due("runs", c.object.runs(), count);
            c.look();
            due("a run into none", c.run(count % 2 == 0 ? 8 : -1), INDEX);
            due("a run that throws", c.text(refusing[count % 5]).run(0).startsWith("throws."), true);
            due("still so many", c.object.runs(), count);
        }
    }

    private static void callsOfAnObject() {
        sentence("What it is", "An object is used for at most 512 calls after it has been made;");
        Check c = new Check();
        due("a text", c.object.write('a'), 1);
        for (int call = 2; call <= 511; call++) {
            due("call " + call, c.run(call % 8), "1");
        }
        due("the 512th call", c.object.runs(), 510);
        Check longest = new Check();
        for (int k = 0; k < 4; k++) {
            longest.object.write(Check.packed("~~~~~~~~"));
        }
        longest.object.write(Check.packed("~~~~~4#1"));
        for (int call = 6; call <= 511; call++) {
            due("call " + call, longest.run(call % 8), "4");
        }
        due("the 512th call of long runs", longest.object.made(), 37);
        Check refusing = new Check();
        for (int call = 1; call <= 511; call++) {
            due("call " + call, refusing.run(call % 11 - 1).startsWith("throws."), true);
        }
        due("the 512th call of such as throw", refusing.object.write(Check.packed("12345678")), 8);
    }
}
