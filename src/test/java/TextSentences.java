/** The sentences on the text and on what is an expression: of the terms, and promises 2 and 3. */
final class TextSentences extends Cases {
    private static final String SIGNS = "+-*<>=&|,#";
    private static final String FOLDING = "+*&|";

    private TextSentences() { }

    static void all() {
        codes();
        length();
        expressions();
        parts();
        digits();
        severalNumbers();
        rowsOfNumbers();
        otherSpaces();
        signs();
        fronts();
        toTheRight();
        writeUpToEight();
        writeFromTheLowest();
        writeUpToZero();
        writeTooHigh();
        writeTooMany();
        erase();
    }

    private static void codes() {
        sentence("Terms", "THE TEXT is a row of characters with codes 1 .. 127,");
        for (int code = 1; code <= 127; code++) {
            Check c = new Check();
            due("code " + code, c.object.write(code), 1);
            due("it stands there", c.object.erase(), 1);
        }
        for (int code = 128; code <= 255; code++) {
            Check c = new Check();
            due("code " + code, c.object.write(code), -1);
            due("nothing stands there", c.object.erase(), 0);
        }
        due("code 0", new Check().object.write(0), 0);
    }

    private static void length() {
        sentence("Terms", "at most 40.");
        Check c = new Check().text("1+1+1+1+1+1+1+1+1+1+1+1+1+1+1+1+1+1+1+1");
        due("39 characters", c.look(), "0");
        due("the 40th", c.object.write('1'), 1);
        due("40 characters", c.run(0), "1");
        due("all of them count", c.variable(0), "0: 30");
        due("the 41st", c.object.write('1'), -1);
        due("erase", c.object.erase(), 40);
        // As deep, and with as many parts, as 40 characters can be; one of them too few or wrong at the end.
        works("-".repeat(39) + "a", "0: -3");
        works("~".repeat(39) + "d", "98: 1 4 2 5 3 6");
        works("/+".repeat(19) + "-a", "0: -3");
        works("(".repeat(19) + "10" + ")".repeat(19), "0: 10");
        works("-" + "a+".repeat(19) + "a", "0: -60");
        works("(".repeat(9) + "a" + "+1)".repeat(9) + "+10", "0: 22");
        works("-" + "a-(".repeat(9) + "a-1" + ")".repeat(9), "0: -1");
        for (char code = 1; code <= 127; code++) {
            refuses(TEXT, String.valueOf(code).repeat(40));
        }
        refuses(TEXT, "-".repeat(39) + "(", "(".repeat(39) + "a", "(".repeat(20) + "a" + ")".repeat(19), "(".repeat(19) + "a" + ")".repeat(20),
            "a+".repeat(20), "/+".repeat(20), "(-".repeat(20), "a-(".repeat(13) + "a");
    }

    private static void expressions() {
        sentence("Terms", "An EXPRESSION in it: expression = part, or part sign expression, or front expression.");
        works("a", "0: 3");
        works("a+3", "0: 6");
        works("-a", "0: -3");
        works("a+3-1", "0: 5");
        works("a*-a", "0: -9");
        works("-/+b", "0: -7");
        works("a+~-3", "0: 0");
        refuses(TEXT, "", "+", "a+", "+a", "aa", "a++a", "a+a+", "(a)a", "a(a)", "1a", "a1", "-", "a-", "--", "~", "a~a", "a~",
            "a+~", "/+", "a/+a", "\\+", "/+/+", "a b", "a-*a", "-+a", "#", "a#", "#a", ",", "a,", ",a", "1,,2", "a=", "a==a");
    }

    private static void parts() {
        sentence("Terms", "part = a name a to h, or a constant, or i with a number behind it, or ( expression ).");
        for (char code = 1; code <= 127; code++) {
            boolean isPart = code >= 'a' && code <= 'h' || code >= '0' && code <= '9';
            boolean isAnswered = !prepared().text(String.valueOf(code)).look().equals(TEXT);
            due("code " + (int) code + " alone is a part", isAnswered, isPart);
        }
        works("h", "0: 0");
        works("i1", "1: 0");
        works("i9,1", "10: 0 1 2 3 4 5 6 7 8 1");
        works("(a)", "0: 3");
        works("((a))", "0: 3");
        works("(a+1)*(a-1)", "0: 8");
        refuses(TEXT, "i", "ia", "i(1)", "i-1", "i+1", "i,1", "ii1", "i1i1", "ai1", "1i1", "i1a", "()", "(", ")", "(a", "a)", "((a)",
            "(a))", "(a)(a)", "a+()", "(+)", "(a+)", "(-)", "[a]", "{a}", ")a(", "i", "a+i", "(i)", "-i");
    }

    private static void digits() {
        sentence("Terms", "constant = a number (1 to 4 digits),");
        works("7", "0: 7");
        works("10", "0: 10");
        works("999", "0: 999");
        works("1000", "0: 1000");
        works("9999", "0: 9999");
        works("0000", "0: 0");
        works("0001", "0: 1");
        works("1234 1234", "2: 1234 1234");
        works("i0023,1234", "24: 0 1 2 3 4 5 6 7 8 9 10 11 12 13 14 15 16 17 18 19 20 21 22 1234");
        works("0003#1", "3: 1 1 1");
        works("0001 0003#1", "35: 1 1 1");
        refuses(TEXT, "10000", "00001", "00000", "12345", "123456789", "12345 1", "1 12345", "1 12345 1", "1 2 12345", "i00001",
            "i00024", "00001#1", "1 00001#1", "00001 1#1", "a+12345", "12345+a", "(12345)", "-12345");
        // 0 digits.
        refuses(TEXT, "i", "+1", "1+", "1 ", " 1");
    }

    private static void severalNumbers() {
        sentence("Terms", "or several numbers, at most 24, with one space between each two and the next:");
        works("1 2", "2: 1 2");
        works("10 9999 0", "3: 10 9999 0");
        works("1 2+3 4", "2: 4 6");
        works("(1 2),3 4", "4: 1 2 3 4");
        // 20 of them fill 39 characters; for 21 the text has no room, so 24 are never reached.
        String twenty = "1 2 3 4 5 6 7 8 9 0 1 2 3 4 5 6 7 8 9 0";
        works(twenty, "20: " + twenty);
        Check c = new Check().text(twenty);
        due("a space as the 40th", c.object.write(' '), 1);
        due("a space at the end", c.look(), TEXT);
        due("no room for the 21st", c.object.write('1'), -1);
        String nineteen = "1 2 3 4 5 6 7 8 9 0 1 2 3 4 5 6 7 8 9";
        works("i4," + nineteen.substring(0, 35), "22: 0 1 2 3 " + nineteen.substring(0, 35));
        refuses(TEXT, "1  2", "1 2  3", "1  2 3", "1   2", "1\t2", "1\n2", "1 ", " 1", "1 2 ", " 1 2", " ", "  ", "1 a", "a 1", "1 i2",
            "i2 1", "1 -2", "1 (2)", "(1) 2", "1 +2", "1_2", "1.2");
    }

    private static void rowsOfNumbers() {
        sentence("Terms", "one number is a number alone, several are a row.");
        looks("5", 0);
        looks("(5)", 0);
        looks("5 6", 2);
        looks("5 6 7", 3);
        works("5+b", "4: 6.5 7 4.5 9");
        refuses(SHAPE, "5 6+b", "5 6 7+b");
        looks("5 6 7 8+b", 4);
        refuses(SHAPE, "5 6 7 8 9+b");
    }

    private static void otherSpaces() {
        sentence("Terms", "No other spaces stand in it.");
        for (String text : new String[] {"a", "7", "i3", "(a)", "a+b", "-a", "~d", "/+b", "\\|b", "2#a", "a,b", "((a*-/+i3))-~b,8"}) {
            for (int place = 0; place <= text.length(); place++) {
                refuses(TEXT, text.substring(0, place) + " " + text.substring(place));
            }
        }
        for (String text : new String[] {"1 2", "1 2#a", "(1 2)", "a+1 2", "12 34 56"}) {
            for (int place = 0; place <= text.length(); place++) {
                boolean isInNumber = place > 0 && place < text.length()
                    && Character.isDigit(text.charAt(place - 1)) && Character.isDigit(text.charAt(place));
                if (!isInNumber) {
                    refuses(TEXT, text.substring(0, place) + " " + text.substring(place));
                }
            }
        }
        works("1 2 3 4 5 6", "6: 1 2 3 4 5 6");
    }

    private static void signs() {
        sentence("Terms", "sign = + - * < > = & | , or #.");
        for (char code = 1; code <= 127; code++) {
            String names = prepared().text("a" + code + "h").look();
            due("a, code " + (int) code + ", h is one", !names.equals(TEXT), SIGNS.indexOf(code) >= 0);
            String parts = prepared().text("(1)" + code + "(2)").look();
            due("(1), code " + (int) code + ", (2) is one", !parts.equals(TEXT), SIGNS.indexOf(code) >= 0);
        }
    }

    private static void fronts() {
        sentence("Terms", "front = - or ~, or / or \\ with one of + * & | behind it.");
        for (char code = 1; code <= 127; code++) {
            String one = prepared().text(code + "a").look();
            due("code " + (int) code + ", a is one", !one.equals(TEXT), code == '-' || code == '~');
            for (char other = 1; other <= 127; other++) {
                boolean isFolding = (code == '/' || code == '\\') && FOLDING.indexOf(other) >= 0;
                boolean areTwo = (code == '-' || code == '~') && (other == '-' || other == '~');
                boolean isSign = (Character.isDigit(code) || code >= 'a' && code <= 'h') && SIGNS.indexOf(other) >= 0;
                String two = prepared().text("" + code + other + "h").look();
                due("codes " + (int) code + " " + (int) other + ", h is one", !two.equals(TEXT), isFolding || areTwo || isSign);
            }
        }
        refuses(TEXT, "/", "\\", "/+", "\\+", "/a", "\\a", "/-a", "\\-a", "/<a", "/=a", "/,a", "/#a", "//a", "/~a", "/(+)a", "/++a",
            "/+*a", "\\\\a", "\\/+a", "/ +a", "/1a", "/i2", "a/b", "a\\b");
    }

    private static void toTheRight() {
        sentence("Terms", "(So all that stands right of a sign or front, up to the end or the closing parenthesis, belongs to it.)");
        works("10-5-2", "0: 7");
        works("(10-5)-2", "0: 3");
        works("2*3+4", "0: 14");
        works("(2*3)+4", "0: 10");
        works("-2+3", "0: -5");
        works("(-2)+3", "0: 1");
        works("1,2+3,4", "3: 1 5 6");
        works("2#3+4", "2: 7 7");
        works("(2#3)+4", "2: 7 7");
        works("/+b-1", "0: 3");
        works("(/+b)-1", "0: 6");
        works("\\+b,1", "5: 1.5 3.5 3 7 8");
        works("(\\+b),1", "5: 1.5 3.5 3 7 1");
        works("~d+1", "98: 2 5 3 6 4 7");
        works("8-(4-2-1)-3", "0: 8");
        works("1=2=3", "0: 0");
        works("1<2>3", "0: 0");
        works("(1<2)>0", "0: 1");
    }

    private static void writeUpToEight() {
        sentence("Promise 2", "Up to eight characters are put behind the text,");
        String piece = "+1+1+1+1";
        for (int before = 0; before <= 5; before++) {
            for (int count = 0; count <= 8; count++) {
                Check c = new Check().text("111111".substring(0, before));
                due("write " + count, c.object.write(Check.packed(piece.substring(0, count))), count);
                due("characters then", c.object.erase(), before + count);
            }
        }
        Check c = new Check().text("(5");
        due("write 7", c.object.write(Check.packed("-3)*10+")), 7);
        due("write 8", c.object.write(Check.packed("4*2-1000")), 8);
        due("behind what stood there", c.run(0), "1");
        due("in this order", c.variable(0), "0: -7964");
    }

    private static void writeFromTheLowest() {
        sentence("Promise 2", "taken from the lowest 8 bits of chars on;");
        Check c = new Check();
        due("4321", c.object.write(0x31323334L), 4);
        c.run(0);
        due("the lowest is the first", c.variable(0), "0: 4321");
        c.object.erase();
        due("eight", c.object.write(0x352B342B332B322BL), 8);
        due("a sign is the first", c.look(), TEXT);
        c.object.erase();
        c.object.write(0x312BL << 8 | 0x39L);
        c.run(0);
        due("9+1", c.variable(0), "0: 10");
    }

    private static void writeUpToZero() {
        sentence("Promise 2", "a value of 0 ends them: how many there were.");
        for (int place = 0; place < 8; place++) {
            long ones = 0x3131313131313131L;
            long behind = place < 7 ? 0xFFFFFFFFFFFFFFFFL << 8 * (place + 1) : 0L;
            long mask = ~(255L << 8 * place);
            for (long chars : new long[] {ones & mask, ones & mask & ~behind, (ones | behind) & mask}) {
                Check c = new Check();
                due("write with 0 at " + place, c.object.write(chars), place);
                due("so many stand there", c.object.erase(), place);
            }
        }
        due("no 0", new Check().object.write(0x3131313131313131L), 8);
        refused("write(0)", o -> o.write(0L), 0);
        refused("write(255 behind 0)", o -> o.write(0xFF00L), 0);
        refused("write(-256)", o -> o.write(-256L), 0);
        refused("write(the highest bit)", o -> o.write(Long.MIN_VALUE), 0);
    }

    private static void writeTooHigh() {
        sentence("Promise 2", "-1 refused (nothing changes): one of them is above 127,");
        for (int place = 0; place < 8; place++) {
            long ones = 0x2B312B312B312B31L & ~(255L << 8 * place);
            for (int code : new int[] {126, 127}) {
                Check c = new Check();
                due("write " + code + " at " + place, c.object.write(ones | (long) code << 8 * place), 8);
                due("all stand there", c.object.erase(), 8);
            }
            for (int code : new int[] {128, 129, 176, 200, 254, 255}) {
                long chars = ones | (long) code << 8 * place;
                refused("write " + code + " at " + place, o -> o.write(chars), -1);
                long last = chars & ~(place < 7 ? -1L << 8 * (place + 1) : 0L);
                refused("write " + code + " as the last at " + place, o -> o.write(last), -1);
            }
        }
        refused("write(-1)", o -> o.write(-1L), -1);
        Check c = new Check().text("1+");
        due("refused", c.object.write('2' | 128L << 8), -1);
        due("then a good one", c.object.write('3'), 1);
        c.run(0);
        due("stands right behind", c.variable(0), "0: 4");
    }

    private static void writeTooMany() {
        sentence("Promise 2", "or the text would have more than 40 characters.");
        String forty = "1+1+1+1+1+1+1+1+1+1+1+1+1+1+1+1+1+1+1+22";
        for (int before = 30; before <= 40; before++) {
            for (int count = 0; count <= 8; count++) {
                boolean fits = before + count <= 40;
                Check c = new Check().text(forty.substring(0, before));
                due("write " + count + " behind " + before, c.object.write(Check.packed("-2-2-2-2".substring(0, count))), fits ? count : -1);
                Check other = new Check().text(forty.substring(0, before) + (fits ? "-2-2-2-2".substring(0, count) : ""));
                due("what is seen then", c.everything(), other.everything());
            }
        }
        Check c = new Check().text(forty);
        due("too many and too high", c.object.write(128L), -1);
        due("one too many", c.object.write('1'), -1);
        due("one too many again", c.object.write('1'), -1);
        c.run(0);
        due("all 40 stand as they were", c.variable(0), "0: 41");
        c.text(forty.substring(0, 39));
        due("two behind 39", c.object.write(Check.packed("11")), -1);
        due("one behind 39", c.object.write(Check.packed("1")), 1);
        c.run(0);
        due("the 40 work", c.variable(0), "0: 40");
    }

    private static void erase() {
        sentence("Promise 3", "The text becomes empty: how many characters it had.");
        String forty = "1+1+1+1+1+1+1+1+1+1+1+1+1+1+1+1+1+1+1+22";
        for (int count = 0; count <= 40; count++) {
            Check c = busy().text(forty.substring(0, count));
            String before = c.state();
            due("erase of " + count, c.object.erase(), count);
            due("look at none", c.look(), TEXT);
            due("run of none", c.run(0), TEXT);
            due("erase again", c.object.erase(), 0);
            due("nothing else changes", c.state(), before);
            due("what stood there is gone", c.result("5"), "0: 5");
            due("room for 40 again", c.text(forty).object.write('1'), -1);
        }
    }
}
