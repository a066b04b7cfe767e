/** Promises 10 to 13: what run and look answer, change and throw, made and runs. */
public final class RunTest extends Cases {
    public static void main(String[] args) {
        parts();
        eachElement();
        joins();
        shapesAnew();
        turns();
        reductions();
        runsAlong();
        rightToLeft();
        textErrors();
        shapeAndSizeErrors();
        whichComesFirst();
        rangeErrors();
        whereResultsGo();
        whichVariable();
        looks();
        arraysMade();
        countsRuns();
        longTexts();
        Check.end();
    }

    private static void parts() {
        works("a", "0: 3");
        works("b", "4: 1.5 2 -0.5 4");
        works("d", "67: 1 2 3 4 5 6");
        works("h", "0: 0");
        works("0", "0: 0");
        works("9999", "0: 9999");
        works("0012", "0: 12");
        works("1 2", "2: 1 2");
        works("0 0007 9999", "3: 0 7 9999");
        works("1 2 3 4 5 6 7 8 9 1 2 3 4 5 6 7 8 9 1 2", "20: 1 2 3 4 5 6 7 8 9 1 2 3 4 5 6 7 8 9 1 2");
        works("i1", "1: 0");
        works("i5", "5: 0 1 2 3 4");
        works("i0003", "3: 0 1 2");
        works("i24", "24: 0 1 2 3 4 5 6 7 8 9 10 11 12 13 14 15 16 17 18 19 20 21 22 23");
        works("(a)", "0: 3");
        works("((1 2))", "2: 1 2");
        works("(((i2)))", "2: 0 1");
    }

    private static void eachElement() {
        works("a+4", "0: 7");
        works("a-4", "0: -1");
        works("a*4", "0: 12");
        works("b+10 20 30 40", "4: 11.5 22 29.5 44");
        works("b-1 2 3 4", "4: 0.5 0 -3.5 0");
        works("b*2 3 4 5", "4: 3 6 -2 20");
        works("2-b", "4: 0.5 0 2.5 -2");
        works("b-2", "4: -0.5 0 -2.5 2");
        works("b<2", "4: 1 0 1 0");
        works("b>2", "4: 0 0 0 1");
        works("b=2", "4: 0 1 0 0");
        works("2<b", "4: 0 0 0 1");
        works("2>b", "4: 1 0 1 0");
        works("b&2", "4: 1.5 2 -0.5 2");
        works("b|2", "4: 2 2 2 4");
        works("2&b", "4: 1.5 2 -0.5 2");
        works("2|b", "4: 2 2 2 4");
        works("d*d", "67: 1 4 9 16 25 36");
        works("d-1", "67: 0 1 2 3 4 5");
        works("1-d", "67: 0 -1 -2 -3 -4 -5");
        works("c+1", "1: 6");
        works("1+c", "1: 6");
        works("c+c", "1: 10");
        works("-b", "4: -1.5 -2 0.5 -4");
        works("-d", "67: -1 -2 -3 -4 -5 -6");
        works("-a", "0: -3");
        works("--a", "0: 3");
        works("a--a", "0: 6");
        works("h=-h", "0: 1");
        works("(h*-1)=h", "0: 1");
    }

    private static void joins() {
        works("1,2", "2: 1 2");
        works("a,b", "5: 3 1.5 2 -0.5 4");
        works("b,a", "5: 1.5 2 -0.5 4 3");
        works("c,c", "2: 5 5");
        works("1 2,3 4,5", "5: 1 2 3 4 5");
        works("i23,9", "24: 0 1 2 3 4 5 6 7 8 9 10 11 12 13 14 15 16 17 18 19 20 21 22 9");
        works("9,i23", "24: 9 0 1 2 3 4 5 6 7 8 9 10 11 12 13 14 15 16 17 18 19 20 21 22");
    }

    private static void shapesAnew() {
        works("3#a", "3: 3 3 3");
        works("1#a", "1: 3");
        works("1 1#a", "33: 3");
        works("4#b", "4: 1.5 2 -0.5 4");
        works("7#1 2 3", "7: 1 2 3 1 2 3 1");
        works("2 3#i6", "67: 0 1 2 3 4 5");
        works("3 2#1 2 3 4", "98: 1 2 3 4 1 2");
        works("6#d", "6: 1 2 3 4 5 6");
        works("3 2#d", "98: 1 2 3 4 5 6");
        works("7#d", "7: 1 2 3 4 5 6 1");
        works("(2 2)#7", "66: 7 7 7 7");
        works("((2))#7", "2: 7 7");
        works("0002#7", "2: 7 7");
        works("1 24#e", "56: 0 0 0 0 0 0 0 0 0 0 0 0 0 0 0 0 0 0 0 0 0 0 0 0");
        works("24 1#e", "769: 0 0 0 0 0 0 0 0 0 0 0 0 0 0 0 0 0 0 0 0 0 0 0 0");
        works("24#1 0", "24: 1 0 1 0 1 0 1 0 1 0 1 0 1 0 1 0 1 0 1 0 1 0 1 0");
        works("4 6#1", "134: 1 1 1 1 1 1 1 1 1 1 1 1 1 1 1 1 1 1 1 1 1 1 1 1");
    }

    private static void turns() {
        works("~d", "98: 1 4 2 5 3 6");
        works("~~d", "67: 1 2 3 4 5 6");
        works("~b", "4: 1.5 2 -0.5 4");
        works("~a", "0: 3");
        works("~c", "1: 5");
        works("~1 3#i3", "97: 0 1 2");
        works("~3 1#i3", "35: 0 1 2");
        works("~2 2#i4", "66: 0 2 1 3");
        works("~1 1#4", "33: 4");
    }

    private static void reductions() {
        works("/+b", "0: 7");
        works("/*b", "0: -6");
        works("/&b", "0: -0.5");
        works("/|b", "0: 4");
        works("/+a", "0: 3");
        works("/+c", "0: 5");
        works("/+d", "2: 6 15");
        works("/*d", "2: 6 120");
        works("/&d", "2: 1 4");
        works("/|d", "2: 3 6");
        works("/+~d", "3: 5 7 9");
        works("/+1 3#i3", "1: 3");
        works("/+3 1#i3", "3: 0 1 2");
        works("/+/+d", "0: 21");
        Check c = prepared();
        c.fill(0, 3, 0.1, 0.2, 0.3);
        c.text("/+a").run(0);
        due("from the first on", c.object.at(0, 0), 0.1 + 0.2 + 0.3);
    }

    private static void runsAlong() {
        works("\\+b", "4: 1.5 3.5 3 7");
        works("\\*b", "4: 1.5 3 -1.5 -6");
        works("\\&b", "4: 1.5 1.5 -0.5 -0.5");
        works("\\|b", "4: 1.5 2 2 4");
        works("\\+a", "0: 3");
        works("\\+c", "1: 5");
        works("\\+d", "67: 1 3 6 4 9 15");
        works("\\*d", "67: 1 2 6 4 20 120");
        works("\\+\\+i4", "4: 0 1 4 10");
    }

    private static void rightToLeft() {
        works("10-5-2", "0: 7");
        works("2*3+4", "0: 14");
        works("(2*3)+4", "0: 10");
        works("-2+3", "0: -5");
        works("(-2)+3", "0: 1");
        works("1-/+i4", "0: -5");
        works("/+i4-1", "0: 2");
        works("(/+i4)-1", "0: 5");
        works("1,2+3,4", "3: 1 5 6");
        works("2#3+4", "2: 7 7");
        works("5-(2-1)-3", "0: 7");
        works("a+~-/+i3", "0: 0");
    }

    private static void textErrors() {
        refuses(TEXT, "", " ", "1 ", " 1", "1  2", "1 a", "a 1", "1 -2", "1 (2)", "a +b", "a+ b", "/ +a", "i 3", "i3 4");
        refuses(TEXT, "12345", "1 12345", "i12345", "i", "ia", "i-1", "i(3)", "j", "A", "z", "`", "ab", "aa", "a1", "1a", "1i2", "i2i2");
        refuses(TEXT, "+", "-", "~", "/", "\\", "/+", "\\+", "/a", "/-a", "/<a", "/,a", "/#a", "/~a", "\\-a", "\\=a", "//a", "a/", "a~b", "a/+b", "a\\+b");
        refuses(TEXT, "a+", "+a", "a++b", "a*+b", "a,", ",a", "a#", "#a", "a,,b", "<a", "a<", "a<=b", "a!b", "a.b", "1.5");
        refuses(TEXT, "()", "(", ")", "(a", "a)", "(a))", "((a)", "(a)(b)", "(a)b", "a(b)", "2(3)", "(a+)", ")a(", "(1 2) 3", "1 2 (3)");
        refuses(TEXT, "a\u0001", "\u007fa", "a\n", "a\t+b", "[a]", "1/2", "a^b", "a:b", ":", "0:", "a@", "1;2");
    }

    private static void shapeAndSizeErrors() {
        refuses(SHAPE, "b+1 2 3", "b-c", "c*b", "b<d", "d>b", "d=~d", "(3 2#1)&d", "b|i5", "6#d+i6", "(1 1#1)+1#1");
        refuses(SHAPE, "d,1", "1,d", "d,d", "b,d", "(1 1#1),1");
        refuses(SHAPE, "3#b", "1#1 2", "1 1#b", "1 3#b", "3 1#b", "2 2#d", "5#d", "23#e", "5 4#e");
        refuses(SHAPE, "a#b", "b#b", "(a)#b", "(2+2)#a", "(-2)#a", "(2,2)#a", "(i2)#a", "(~2)#a", "(/+2)#a", "(\\+2)#a", "(2#2)#a");
        refuses(SHAPE, "1 2 3#a", "(1 2 3)#a", "1 1 1#a", "0 0 0#a");
        refuses(SIZE, "i0", "i25", "i9999", "i0000", "i24,1", "1,i24", "b,i21", "e,e", "i12,i13");
        refuses(SIZE, "0#a", "25#a", "9999#a", "0 0#a", "0 5#a", "5 0#a", "1 25#a", "25 1#a", "5 5#a", "9999 9999#a", "0 9999#a", "13 2#a");
    }

    private static void whichComesFirst() {
        refuses(TEXT, "(b+i3)+", "i0)", "i0+12345", "b+c 1", "f*f+");
        // The right part before the left one.
        refuses(SIZE, "(b+i3)+i0", "(d,1)+i25", "(1#b)+i0");
        refuses(SHAPE, "(i0)+b+i3", "(i25),d,1", "(i0)#b+c");
        // What stands inside before what stands around.
        refuses(SIZE, "d,i0", "(i0),d", "(i0)#b", "(i24,1)#b", "b+0#a", "a#i0", "1 2 3#i0");
        refuses(SHAPE, "i24,b+c", "0#b+c", "25#1#b", "i24,d,1", "(3#b),i24");
        // In one expression.
        refuses(SHAPE, "e,d", "d,e", "(0,0)#a", "0 0 0#b");
        refuses(SIZE, "0#b", "0 3#b", "3 0#b", "0#e", "25#e");
        // RANGE is last.
        refuses(SHAPE, "(f*f)+b+c", "(b+c)+f*f", "b,(2 2#1),f*f");
        refuses(SIZE, "(i0)+f*f", "(f*f)+i0", "25#f*f");
    }

    private static void rangeErrors() {
        works("f", "0: 1000000000000");
        works("-f", "0: -1000000000000");
        works("g*g", "0: 1000000000000");
        works("g*-g", "0: -1000000000000");
        works("f-f", "0: 0");
        works("/*g,g,1", "0: 1000000000000");
        works("f+h", "0: 1000000000000");
        works("/+f,(-1),1", "0: 1000000000000");
        works("/+2 2#f,-f", "2: 0 0");
        outOfRange("f+1", 0);
        outOfRange("1+f", 0);
        outOfRange("(-f)-1", 0);
        outOfRange("f*f", 0);
        outOfRange("f*-f", 0);
        outOfRange("g*g+1", 0);
        outOfRange("g*-1+g", 0);
        outOfRange("(f+1)-f", 0);
        outOfRange("0*f+1", 0);
        outOfRange("(f+1)>0", 0);
        outOfRange("0&f+1", 0);
        outOfRange("3#f+1", 3);
        outOfRange("b+f", 4);
        outOfRange("(h,h,f)+0 0 1", 3);
        outOfRange("/+f,1", 0);
        outOfRange("/+f,1,-1", 0);
        outOfRange("/*g,g,2,0", 0);
        outOfRange("/+2 2#f,f", 2);
        outOfRange("/+2 3#h,h,h,f,1,-1", 2);
        outOfRange("\\+f,1", 2);
        outOfRange("\\*g,g,2,0", 4);
        outOfRange("\\+-f,1", 2);
        outOfRange("~2 2#h,h,h,f+1", 66);
    }

    private static void whereResultsGo() {
        Check c = prepared();
        c.text("b,b");
        due("into b itself", c.run(1), "8");
        due("b twice", c.variable(1), "8: 1.5 2 -0.5 4 1.5 2 -0.5 4");
        due("the text stays", c.run(1), "16");
        due("too many now", c.run(1), SIZE);
        due("b stays", c.object.size(1), 16);
        due("others stay", c.variable(0) + " " + c.variable(3), "0: 3 67: 1 2 3 4 5 6");
        c.text("2");
        due("a shorter one", c.run(1), "1");
        due("a number alone again", c.variable(1), "0: 2");
        due("nothing behind it", c.object.at(1, 1), 0.0);
        c.text("~d");
        due("a table into itself", c.run(3), "6");
        due("turned", c.variable(3), "98: 1 4 2 5 3 6");
        c.text("1 2 3");
        c.run(0);
        c.object.set(0, 1, 9.0);
        c.run(1);
        due("a constant is the same each time", c.variable(1), "3: 1 2 3");
        due("set after run stays", c.variable(0), "3: 1 9 3");
        c.text("a");
        c.run(2);
        c.object.set(0, 0, 7.0);
        due("a copy, not the same array", c.variable(2), "3: 1 9 3");
    }

    private static void whichVariable() {
        for (int v = 0; v < 8; v++) {
            Check c = prepared();
            c.text("20+1 2");
            due("run(" + v + ")", c.run(v), "2");
            due("variable " + v, c.variable(v), "2: 21 22");
            c.text(String.valueOf((char) ('a' + v)));
            due("its name", c.look(), "2");
        }
        String[] texts = {"", "a", "1 ", "b+c", "i0", "f*f"};
        int[] none = {-1, 8, Integer.MIN_VALUE, Integer.MAX_VALUE};
        for (String text : texts) {
            for (int v : none) {
                Check c = prepared();
                c.text(text);
                String before = c.state();
                due("run(" + v + ") of " + text, c.run(v), INDEX);
                due("state after it", c.state(), before);
            }
        }
    }

    private static void looks() {
        String[][] rows = {
            {"a", "0"}, {"b", "4"}, {"d", "67"}, {"~d", "98"}, {"/+d", "2"}, {"\\+d", "67"}, {"i24", "24"}, {"i1", "1"},
            {"24 1#1", "769"}, {"1 24#1", "56"}, {"a,a", "2"}, {"f*f", "0"}, {"b*f*f", "4"}, {"/+e", "0"}, {"(5)", "0"}};
        for (String[] row : rows) {
            Check c = prepared();
            c.text(row[0]);
            String before = c.state();
            due("look at " + row[0], c.look(), row[1]);
            due("state after look at " + row[0], c.state(), before);
            due("look again at " + row[0], c.look(), row[1]);
            due("text after look at " + row[0], c.object.erase(), row[0].length());
        }
        Check c = prepared();
        c.text("a");
        c.object.shape(0, 67);
        due("the variables as they are", c.look(), "67");
        c.object.put(0, 1.0);
        due("and as they are then", c.look(), "0");
    }

    private static void arraysMade() {
        Object[][] rows = {
            {"a", 1}, {"1 2", 1}, {"i3", 1}, {"a+1", 1}, {"-b", 1}, {"3#a", 1}, {"2 3#i6", 1}, {"(a)", 1}, {"a+b*b-1", 1},
            {"a,b", 1}, {"~d", 1}, {"/+b", 1}, {"\\+b", 1}, {"(a,b)", 1}, {"((~d))", 1}, {"((/+b))", 1}, {"(\\+b)", 1},
            {"~a", 1}, {"/+a", 1}, {"\\+a", 1}, {"~~a", 2}, {"1,2,3", 2}, {"(1,2),3", 2}, {"/+/+~d", 3}, {"\\+\\*b", 2},
            {"1+/+b", 2}, {"-~d", 2}, {"(1,2)+3,4", 3}, {"3#1,2", 2}, {"(/+b)-/*b", 3}, {"(/+b),/*b", 3}, {"/+b-a", 1},
            {"/+1+\\+b,~c", 4}, {"((/+b))+((1))", 2}};
        for (Object[] row : rows) {
            Check c = prepared();
            c.text((String) row[0]).run(7);
            due("made by " + row[0], c.object.made(), row[1]);
        }
        Check c = prepared();
        c.text("1,2,3").look();
        due("look makes none", c.object.made(), 0);
        c.run(7);
        c.text("b+c").run(7);
        c.text("1,2,3,4+").run(7);
        c.text("~~~~f+1").run(7);
        c.text("~~~~1").run(8);
        c.text("~~~~1").look();
        due("of the latest that threw nothing", c.object.made(), 2);
        c.text("1").run(7);
        due("of that alone", c.object.made(), 1);
    }

    private static void countsRuns() {
        Check c = prepared();
        c.text("a").run(0);
        c.text("b").run(0);
        c.look();
        due("two runs", c.object.runs(), 2);
        c.run(8);
        c.run(-1);
        c.text("b+c").run(0);
        c.text("i0").run(0);
        c.text("a+").run(0);
        c.text("f*f").run(0);
        due("still two", c.object.runs(), 2);
        c.text("1").run(0);
        c.run(0);
        due("four", c.object.runs(), 4);
    }

    /** Texts of 40 characters, as deep and with as many parts as there can be. */
    private static void longTexts() {
        works("((((((((((((((((((7))))))))))))))))))", "0: 7");
        works("(((((((((((((((((((42)))))))))))))))))))", "0: 42");
        works("---------------------------------------a", "0: -3");
        works("-a+a+a+a+a+a+a+a+a+a+a+a+a+a+a+a+a+a+a+a", "0: -60");
        works("(((((((((a+1)+1)+1)+1)+1)+1)+1)+1)+1)+1", "0: 13");
        works("a-(a-(a-(a-(a-(a-(a-(a-(a-(a-1)))))))))", "0: 1");
        works("1,1,1,1,1,1,1,1,1,1,1,1,1,1,1,1,1,1,1,12", "20: 1 1 1 1 1 1 1 1 1 1 1 1 1 1 1 1 1 1 1 12");
        works("~~~~~~~~~~~~~~~~~~~~~~~~~~~~~~~~~~~~~~~d", "98: 1 4 2 5 3 6");
        String forty = "0123456789012345678901234567890123456789";
        for (char sign : "(-~)1a+ /i".toCharArray()) {
            refuses(TEXT, forty.replaceAll(".", String.valueOf(sign)));
        }
        refuses(TEXT, "a+a+a+a+a+a+a+a+a+a+a+a+a+a+a+a+a+a+a+a+", "/+/+/+/+/+/+/+/+/+/+/+/+/+/+/+/+/+/+/+/+");
    }
}
