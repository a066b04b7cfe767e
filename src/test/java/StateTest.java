/** Promises 1 to 9: a new object, the text, and the variables without run. */
public final class StateTest extends Cases {
    public static void main(String[] args) {
        newObject();
        write();
        writeAtTheEnd();
        erase();
        put();
        shape();
        allShapes();
        set();
        asking();
        Check.end();
    }

    private static void newObject() {
        Check c = new Check();
        for (int v = 0; v < 8; v++) {
            due("new variable " + v, c.variable(v), "0: 0");
        }
        due("erase of a new one", c.object.erase(), 0);
        due("made of a new one", c.object.made(), 0);
        due("runs of a new one", c.object.runs(), 0);
        due("run of a new one", c.run(0), TEXT);
    }

    private static void write() {
        Check c = new Check();
        due("write nothing", c.object.write(0L), 0);
        due("write one", c.object.write(Check.packed("7")), 1);
        due("write eight", c.object.write(Check.packed("+1234+10")), 8);
        c.run(0);
        due("the pieces stand in order", c.variable(0), "0: 1251");
        due("0 ends them", c.object.write('+' | '0' << 16), 1);
        due("what is behind a 0 is not looked at", c.object.write('5' | 200L << 16 | 0xFFL << 56), 1);
        c.run(0);
        due("nothing behind a 0 was put", c.variable(0), "0: 1256");
        due("0 first", c.object.write(0xFF00L), 0);
        due("erase counts them", c.object.erase(), 11);

        due("127", c.object.write(127L), 1);
        due("128", c.object.write(128L), -1);
        due("255", c.object.write(255L), -1);
        due("1", c.object.write(1L), 1);
        due("128 last", c.object.write(0x8031313131313131L), -1);
        due("127 last", c.object.write(0x7F31313131313131L), 8);
        due("all above", c.object.write(-1L), -1);
        due("128 behind a good one", c.object.write('1' | 128L << 8), -1);
        due("refused ones left nothing", c.object.erase(), 10);
    }

    private static void writeAtTheEnd() {
        Check c = new Check();
        c.text("1111+1111+1111+1111+1111+1111+1111+111");
        due("41 characters", c.object.write(Check.packed("+22")), -1);
        due("40 characters", c.object.write(Check.packed("+2")), 2);
        due("one more", c.object.write(Check.packed("2")), -1);
        due("none more", c.object.write(0L), 0);
        c.run(0);
        due("40 characters work", c.variable(0), "0: 7890");
        due("erase 40", c.object.erase(), 40);
        for (int k = 0; k < 5; k++) {
            due("write 8 again", c.object.write(Check.packed("........")), 8);
        }
        due("8 too many", c.object.write(Check.packed("........")), -1);
        due("erase 40 again", c.object.erase(), 40);
    }

    private static void erase() {
        Check c = new Check();
        c.text("12");
        due("erase", c.object.erase(), 2);
        due("erase again", c.object.erase(), 0);
        due("empty text", c.look(), TEXT);
        due("another text", c.result("3"), "0: 3");
    }

    private static void put() {
        Check c = new Check();
        due("put 0", c.object.put(0, 1.5), true);
        due("put 7", c.object.put(7, -2.0), true);
        due("put -1", c.object.put(-1, 1.0), false);
        due("put 8", c.object.put(8, 1.0), false);
        due("put least", c.object.put(Integer.MIN_VALUE, 1.0), false);
        due("put most", c.object.put(Integer.MAX_VALUE, 1.0), false);
        due("variable 0", c.variable(0), "0: 1.5");
        due("variable 7", c.variable(7), "0: -2");
        due("put limit", c.object.put(1, LIMIT), true);
        due("put -limit", c.object.put(2, -LIMIT), true);
        c.object.shape(3, 2);
        c.object.set(3, 1, 9.0);
        String before = c.state();
        double[] outside = {ABOVE, -ABOVE, Double.NaN, Double.POSITIVE_INFINITY, Double.NEGATIVE_INFINITY, Double.MAX_VALUE};
        for (double x : outside) {
            due("put " + x, c.object.put(3, x), false);
        }
        due("refused ones changed nothing", c.state(), before);
        due("limit is there", c.variable(1), "0: 1000000000000");
        due("-limit is there", c.variable(2), "0: -1000000000000");
        due("put over a row", c.object.put(3, 4.0), true);
        due("row is a number alone", c.variable(3), "0: 4");
        due("size is 1", c.object.size(3), 1);
        due("put the least number", c.object.put(4, Double.MIN_VALUE), true);
        due("the least number", c.object.at(4, 0), Double.MIN_VALUE);
    }

    private static void shape() {
        Check c = new Check();
        c.object.put(2, 5.0);
        due("shape 0", c.object.shape(2, 0), true);
        due("shape 0 is a zero alone", c.variable(2), "0: 0");
        due("shape 1", c.object.shape(0, 1), true);
        due("shape 24", c.object.shape(7, 24), true);
        c.object.set(7, 23, 3.0);
        c.object.set(0, 0, 3.0);
        String before = c.state();
        due("shape 25", c.object.shape(7, 25), false);
        due("shape -1", c.object.shape(7, -1), false);
        due("v -1", c.object.shape(-1, 1), false);
        due("v 8", c.object.shape(8, 1), false);
        due("refused ones changed nothing", c.state(), before);
        due("the same shape again", c.object.shape(7, 24), true);
        due("zeros again", c.object.at(7, 23), 0.0);
        due("a table", c.object.shape(0, 32 * 2 + 3), true);
        due("a table of zeros", c.variable(0), "67: 0 0 0 0 0 0");
    }

    private static void allShapes() {
        for (int shape = -70; shape < 32 * 40; shape++) {
            Check c = new Check();
            int lines = Math.floorDiv(shape, 32);
            int length = Math.floorMod(shape, 32);
            boolean isTable = lines >= 1 && length >= 1 && lines * length <= 24;
            boolean isRow = lines == 0 && length <= 24;
            c.object.shape(0, 5);
            due("shape " + shape, c.object.shape(0, shape), isTable || isRow);
            int size = isTable ? lines * length : isRow ? Math.max(length, 1) : 5;
            due("size of " + shape, c.object.size(0), size);
            due("shapeOf " + shape, c.object.shapeOf(0), isTable || isRow ? shape : 5);
        }
        int[] far = {Integer.MIN_VALUE, Integer.MIN_VALUE + 33, Integer.MAX_VALUE, 1 << 30, (1 << 30) + 1, (1 << 16) + 1};
        for (int shape : far) {
            due("shape " + shape, new Check().object.shape(0, shape), false);
        }
    }

    private static void set() {
        Check c = new Check();
        due("set a number alone", c.object.set(0, 0, 2.5), true);
        due("it has no element 1", c.object.set(0, 1, 2.5), false);
        due("variable 0", c.variable(0), "0: 2.5");
        c.object.shape(7, 24);
        due("set the first", c.object.set(7, 0, LIMIT), true);
        due("set the last", c.object.set(7, 23, -LIMIT), true);
        c.object.shape(1, 3);
        c.object.set(1, 1, 8.0);
        String before = c.state();
        due("element 24", c.object.set(7, 24, 1.0), false);
        due("element 3 of 3", c.object.set(1, 3, 1.0), false);
        due("element -1", c.object.set(7, -1, 1.0), false);
        due("element least", c.object.set(7, Integer.MIN_VALUE, 1.0), false);
        due("element most", c.object.set(7, Integer.MAX_VALUE, 1.0), false);
        due("v 8", c.object.set(8, 0, 1.0), false);
        due("v -1", c.object.set(-1, 0, 1.0), false);
        double[] outside = {ABOVE, -ABOVE, Double.NaN, Double.POSITIVE_INFINITY, Double.NEGATIVE_INFINITY};
        for (double x : outside) {
            due("set " + x, c.object.set(7, 5, x), false);
        }
        due("refused ones changed nothing", c.state(), before);
        due("one element of three", c.variable(1), "3: 0 8 0");
        due("the first", c.object.at(7, 0), LIMIT);
        due("the last", c.object.at(7, 23), -LIMIT);
        c.object.shape(1, 2);
        c.object.shape(1, 3);
        due("a longer row after a shorter one", c.variable(1), "3: 0 0 0");
    }

    private static void asking() {
        Check c = new Check();
        c.object.shape(0, 32 * 3 + 8);
        c.object.shape(7, 24);
        c.object.set(0, 23, 6.0);
        c.object.set(7, 0, 7.0);
        due("shapeOf table", c.object.shapeOf(0), 104);
        due("size of table", c.object.size(0), 24);
        due("size of row", c.object.size(7), 24);
        due("size of number", c.object.size(3), 1);
        due("last of table", c.object.at(0, 23), 6.0);
        due("first of row", c.object.at(7, 0), 7.0);
        due("no element 24", c.object.at(0, 24), 0.0);
        c.object.shape(0, 2);
        c.object.set(0, 1, 5.0);
        c.object.put(0, 5.0);
        due("no element 1 any more", c.object.at(0, 1), 0.0);
        due("element 0", c.object.at(0, 0), 5.0);
        int[] none = {-1, 8, 9, Integer.MIN_VALUE, Integer.MAX_VALUE};
        for (int v : none) {
            due("shapeOf " + v, c.object.shapeOf(v), -1);
            due("size of " + v, c.object.size(v), -1);
            due("at " + v, c.object.at(v, 0), 0.0);
            due("element " + v, c.object.at(0, v), 0.0);
        }
    }
}
