/** Works out expressions over arrays of numbers, with shapes found first and as few arrays made as said. */
public final class ArrayText {
    private static final int VARIABLES = 8;
    private static final int MOST_SIGNS = 40;
    private static final int MOST_ELEMENTS = 24;
    private static final int MOST_DIGITS = 4;
    private static final int SIGNS_A_WRITE = 8;
    private static final int BITS_A_SIGN = 8;
    private static final int HIGHEST_SIGN = 127;
    private static final long LIMIT = 1000000000000L;

    // An expression has one node more than it has names, constants, i's, pairs of parentheses, signs and fronts,
    // and each of these takes at least one character.
    private static final int MOST_NODES = MOST_SIGNS + 1;

    // No character of the text has the code 0.
    private static final char NO_SIGN = 0;

    private static final int NUMBER_ALONE = 0;
    private static final int LINES_SHIFT = 5;
    private static final int LENGTH_MASK = 31;

    private static final int EMPTY = 0;
    private static final int NAME = 1;
    private static final int CONSTANT = 2;
    private static final int COUNT = 3;
    private static final int NEGATIVE = 4;
    private static final int TURN = 5;
    private static final int REDUCTION = 6;
    private static final int RUN = 7;
    private static final int EACH = 8;
    private static final int JOIN = 9;
    private static final int ANEW = 10;

    private final NumberArray[] variables;
    private final Text text;
    private final Tree tree;
    private int madeByLatest;
    private int runsSoFar;

    public ArrayText() {
        variables = new NumberArray[VARIABLES];
        for (int v = 0; v < VARIABLES; v++) {
            variables[v] = new NumberArray();
        }
        text = new Text();
        tree = new Tree();
    }

    public int write(long chars) {
        return text.append(chars);
    }

    public int erase() {
        return text.clear();
    }

    public boolean put(int v, double x) {
        if (!isVariable(v) || !isInRange(x)) {
            return false;
        }
        variables[v].shape = NUMBER_ALONE;
        variables[v].elements[0] = x;
        return true;
    }

    public boolean shape(int v, int shape) {
        if (!isVariable(v) || !Shapes.exists(shape)) {
            return false;
        }
        variables[v].becomeZeros(shape);
        return true;
    }

    public boolean set(int v, int i, double x) {
        if (!isVariable(v) || !variables[v].hasElement(i) || !isInRange(x)) {
            return false;
        }
        variables[v].elements[i] = x;
        return true;
    }

    public int shapeOf(int v) {
        return isVariable(v) ? variables[v].shape : -1;
    }

    public int size(int v) {
        return isVariable(v) ? variables[v].count() : -1;
    }

    public double at(int v, int i) {
        return isVariable(v) && variables[v].hasElement(i) ? variables[v].elements[i] : 0;
    }

    public int run(int v) throws IndexOutOfBoundsException, IllegalArgumentException, IllegalStateException,
            UnsupportedOperationException, ArithmeticException {
        if (!isVariable(v)) {
            throw new IndexOutOfBoundsException("no such variable");
        }
        Node whole = Parser.readWhole(text, tree);
        ShapeFinder.findAll(tree, variables);
        Worker.workOutAll(tree, variables);
        variables[v].becomeCopy(whole.result);
        madeByLatest = tree.arraysMade(whole);
        runsSoFar++;
        return variables[v].count();
    }

    public int look() throws IllegalArgumentException, IllegalStateException, UnsupportedOperationException {
        Node whole = Parser.readWhole(text, tree);
        ShapeFinder.findAll(tree, variables);
        return whole.result.shape;
    }

    public int made() {
        return madeByLatest;
    }

    public int runs() {
        return runsSoFar;
    }

    private static boolean isVariable(int v) {
        return v >= 0 && v < VARIABLES;
    }

    /** False for what is no number too: it is neither below nor above anything. */
    private static boolean isInRange(double x) {
        return x >= -LIMIT && x <= LIMIT;
    }

    /** What a shape's number says; a number alone and a row count as one line. */
    private static final class Shapes {
        static boolean exists(int shape) {
            if (shape < 0 || shape > tableOf(MOST_ELEMENTS, MOST_ELEMENTS)) {
                return false;
            }
            return shape == NUMBER_ALONE || fits(lines(shape), length(shape));
        }

        static boolean fits(int lines, int length) {
            return lines >= 1 && lines <= MOST_ELEMENTS
                && length >= 1 && length <= MOST_ELEMENTS
                && lines * length <= MOST_ELEMENTS;
        }

        static int tableOf(int lines, int length) {
            return (lines << LINES_SHIFT) + length;
        }

        static boolean isTable(int shape) {
            return shape > LENGTH_MASK;
        }

        static int lines(int shape) {
            return shape > LENGTH_MASK ? shape >> LINES_SHIFT : 1;
        }

        static int length(int shape) {
            return shape == NUMBER_ALONE ? 1 : shape & LENGTH_MASK;
        }

        static int elements(int shape) {
            return lines(shape) * length(shape);
        }
    }

    /** An array of the document: its elements stand first in a row that is long enough for every shape. */
    private static final class NumberArray {
        int shape = NUMBER_ALONE;
        final double[] elements = new double[MOST_ELEMENTS];

        int count() {
            return Shapes.elements(shape);
        }

        boolean hasElement(int i) {
            return i >= 0 && i < count();
        }

        void becomeZeros(int newShape) {
            shape = newShape;
            for (int k = 0; k < MOST_ELEMENTS; k++) {
                elements[k] = 0;
            }
        }

        void becomeCopy(NumberArray other) {
            shape = other.shape;
            for (int k = 0; k < MOST_ELEMENTS; k++) {
                elements[k] = other.elements[k];
            }
        }
    }

    /** The text, and the place up to which it has been read. */
    private static final class Text {
        private final char[] signs = new char[MOST_SIGNS];
        private int length;
        private int place;

        int append(long chars) {
            int count = signsIn(chars);
            if (count < 0 || length + count > MOST_SIGNS) {
                return -1;
            }
            for (int k = 0; k < count; k++) {
                signs[length + k] = (char) signOf(chars, k);
            }
            length += count;
            return count;
        }

        int clear() {
            int before = length;
            length = 0;
            return before;
        }

        void startReading() {
            place = 0;
        }

        char next() {
            return place < length ? signs[place] : NO_SIGN;
        }

        void pass() {
            if (place < length) {
                place++;
            }
        }

        boolean passIfNext(char sign) {
            if (next() != sign) {
                return false;
            }
            pass();
            return true;
        }

        /** How many characters chars has; -1 if one of them is too high. */
        private static int signsIn(long chars) {
            for (int k = 0; k < SIGNS_A_WRITE; k++) {
                int sign = signOf(chars, k);
                if (sign == NO_SIGN) {
                    return k;
                }
                if (sign > HIGHEST_SIGN) {
                    return -1;
                }
            }
            return SIGNS_A_WRITE;
        }

        private static int signOf(long chars, int k) {
            return (int) (chars >>> (BITS_A_SIGN * k)) & 255;
        }
    }

    /**
     * A name (number: its variable), i (number: the one behind it) or constant (result: its numbers),
     * or a sign or front with the nodes of what it works on.
     */
    private static final class Node {
        int kind;
        char sign;
        int number;
        Node left;
        Node right;
        final NumberArray result = new NumberArray();

        void clear() {
            kind = EMPTY;
            sign = NO_SIGN;
            number = 0;
            left = null;
            right = null;
        }

        boolean makesArray() {
            return kind == JOIN || kind == TURN || kind == REDUCTION || kind == RUN;
        }
    }

    /**
     * The nodes of one expression: each stands before its left part, and that before its right part.
     * So from the last to the first each comes after its parts, the right one before the left one.
     */
    private static final class Tree {
        final Node[] nodes = new Node[MOST_NODES];
        int count;

        Tree() {
            for (int k = 0; k < MOST_NODES; k++) {
                nodes[k] = new Node();
            }
        }

        void clear() {
            count = 0;
        }

        Node add() {
            if (count >= MOST_NODES) {
                throw new IllegalArgumentException("more parts than a text can hold");
            }
            Node node = nodes[count];
            count++;
            node.clear();
            return node;
        }

        int arraysMade(Node whole) {
            int made = whole.makesArray() ? 0 : 1;
            for (int k = 0; k < count; k++) {
                if (nodes[k].makesArray()) {
                    made++;
                }
            }
            return made;
        }
    }

    /** Reads the text into nodes; throws for TEXT. */
    private static final class Parser {
        static Node readWhole(Text text, Tree tree) {
            text.startReading();
            tree.clear();
            Node whole = readExpression(text, tree, 0);
            if (text.next() != NO_SIGN) {
                throw new IllegalArgumentException("more than an expression");
            }
            return whole;
        }

        private static Node readExpression(Text text, Tree tree, int depth) {
            if (depth > MOST_SIGNS) {
                throw new IllegalArgumentException("deeper than a text can be");
            }
            // It is taken before the part is read, because it stands before its parts; without a sign it stays empty.
            Node node = tree.add();
            if (!readFront(text, node)) {
                Node part = readPart(text, tree, depth);
                if (!readSign(text, node)) {
                    return part;
                }
                node.left = part;
            }
            node.right = readExpression(text, tree, depth + 1);
            return node;
        }

        private static Node readPart(Text text, Tree tree, int depth) {
            if (text.passIfNext('(')) {
                Node inside = readExpression(text, tree, depth + 1);
                if (!text.passIfNext(')')) {
                    throw new IllegalArgumentException("no closing parenthesis");
                }
                return inside;
            }
            Node node = tree.add();
            if (isVariable(text.next() - 'a')) {
                node.kind = NAME;
                node.number = text.next() - 'a';
                text.pass();
            } else if (text.passIfNext('i')) {
                node.kind = COUNT;
                node.number = readNumber(text);
            } else {
                node.kind = CONSTANT;
                readConstant(text, node.result);
            }
            return node;
        }

        private static void readConstant(Text text, NumberArray constant) {
            constant.elements[0] = readNumber(text);
            int count = 1;
            while (count < MOST_ELEMENTS && text.passIfNext(' ')) {
                constant.elements[count] = readNumber(text);
                count++;
            }
            constant.shape = count == 1 ? NUMBER_ALONE : count;
        }

        private static int readNumber(Text text) {
            int number = 0;
            int digits = 0;
            while (digits < MOST_DIGITS && isDigit(text.next())) {
                number = number * 10 + (text.next() - '0');
                digits++;
                text.pass();
            }
            if (digits == 0) {
                throw new IllegalArgumentException("no part or number");
            }
            return number;
        }

        private static boolean isDigit(char sign) {
            return sign >= '0' && sign <= '9';
        }

        private static boolean readFront(Text text, Node node) {
            node.kind = kindOfFront(text.next());
            if (node.kind == EMPTY) {
                return false;
            }
            text.pass();
            if (node.kind == REDUCTION || node.kind == RUN) {
                node.sign = readFoldingSign(text);
            }
            return true;
        }

        private static int kindOfFront(char sign) {
            switch (sign) {
                case '-': return NEGATIVE;
                case '~': return TURN;
                case '/': return REDUCTION;
                case '\\': return RUN;
                default: return EMPTY;
            }
        }

        private static char readFoldingSign(Text text) {
            char sign = text.next();
            if (sign != '+' && sign != '*' && sign != '&' && sign != '|') {
                throw new IllegalArgumentException("no sign to reduce or run by");
            }
            text.pass();
            return sign;
        }

        private static boolean readSign(Text text, Node node) {
            node.sign = text.next();
            node.kind = kindOfSign(node.sign);
            if (node.kind == EMPTY) {
                return false;
            }
            text.pass();
            return true;
        }

        private static int kindOfSign(char sign) {
            switch (sign) {
                case '+': case '-': case '*': case '<': case '>': case '=': case '&': case '|':
                    return EACH;
                case ',': return JOIN;
                case '#': return ANEW;
                default: return EMPTY;
            }
        }
    }

    /** Finds the shape of every node, without its elements; throws for SHAPE and SIZE. */
    private static final class ShapeFinder {
        static void findAll(Tree tree, NumberArray[] variables) {
            for (int k = tree.count - 1; k >= 0; k--) {
                Node node = tree.nodes[k];
                node.result.shape = shapeFound(node, variables);
            }
        }

        private static int shapeFound(Node node, NumberArray[] variables) {
            switch (node.kind) {
                case NAME: return variables[node.number].shape;
                case COUNT: return shapeOfCount(node.number);
                case NEGATIVE: case RUN: return node.right.result.shape;
                case TURN: return shapeTurned(node.right.result.shape);
                case REDUCTION: return shapeReduced(node.right.result.shape);
                case EACH: return shapeOfEach(node.left.result.shape, node.right.result.shape);
                case JOIN: return shapeJoined(node.left.result.shape, node.right.result.shape);
                case ANEW: return shapeAnew(node.left, node.right.result.count());
                default: return node.result.shape;
            }
        }

        private static int shapeOfCount(int number) {
            if (!Shapes.fits(1, number)) {
                throw new UnsupportedOperationException("no elements or too many behind i");
            }
            return number;
        }

        private static int shapeTurned(int shape) {
            return Shapes.isTable(shape) ? Shapes.tableOf(Shapes.length(shape), Shapes.lines(shape)) : shape;
        }

        private static int shapeReduced(int shape) {
            return Shapes.isTable(shape) ? Shapes.lines(shape) : NUMBER_ALONE;
        }

        private static int shapeOfEach(int x, int y) {
            if (x != y && x != NUMBER_ALONE && y != NUMBER_ALONE) {
                throw new IllegalStateException("shapes that do not fit");
            }
            return x == NUMBER_ALONE ? y : x;
        }

        private static int shapeJoined(int x, int y) {
            if (Shapes.isTable(x) || Shapes.isTable(y)) {
                throw new IllegalStateException("a table joined");
            }
            int count = Shapes.elements(x) + Shapes.elements(y);
            if (!Shapes.fits(1, count)) {
                throw new UnsupportedOperationException("too many elements joined");
            }
            return count;
        }

        private static int shapeAnew(Node wanted, int count) {
            if (wanted.kind != CONSTANT || wanted.result.count() > 2) {
                throw new IllegalStateException("no constant of one number or two before #");
            }
            boolean isRow = wanted.result.shape == NUMBER_ALONE;
            int lines = isRow ? 1 : (int) wanted.result.elements[0];
            int length = (int) wanted.result.elements[isRow ? 0 : 1];
            if (!Shapes.fits(lines, length)) {
                throw new UnsupportedOperationException("no elements or too many by #");
            }
            if (lines * length < count) {
                throw new IllegalStateException("fewer elements by # than there are");
            }
            return isRow ? length : Shapes.tableOf(lines, length);
        }
    }

    /** Works out the elements of every node, once all shapes are found; throws for RANGE. */
    private static final class Worker {
        static void workOutAll(Tree tree, NumberArray[] variables) {
            for (int k = tree.count - 1; k >= 0; k--) {
                workOut(tree.nodes[k], variables);
            }
        }

        private static void workOut(Node node, NumberArray[] variables) {
            switch (node.kind) {
                case NAME: node.result.becomeCopy(variables[node.number]); break;
                case COUNT: countUp(node.result); break;
                case NEGATIVE: negate(node.right.result, node.result); break;
                case TURN: turn(node.right.result, node.result); break;
                case REDUCTION: reduce(node.sign, node.right.result, node.result); break;
                case RUN: runAlong(node.sign, node.right.result, node.result); break;
                case EACH: combineEach(node.sign, node.left.result, node.right.result, node.result); break;
                case JOIN: join(node.left.result, node.right.result, node.result); break;
                case ANEW: fillAnew(node.right.result, node.result); break;
                default: break;
            }
        }

        private static void countUp(NumberArray to) {
            int count = to.count();
            for (int k = 0; k < count; k++) {
                to.elements[k] = k;
            }
        }

        private static void negate(NumberArray from, NumberArray to) {
            int count = to.count();
            for (int k = 0; k < count; k++) {
                to.elements[k] = -from.elements[k];
            }
        }

        private static void turn(NumberArray from, NumberArray to) {
            if (!Shapes.isTable(from.shape)) {
                to.becomeCopy(from);
                return;
            }
            int lines = Shapes.lines(from.shape);
            int length = Shapes.length(from.shape);
            for (int i = 0; i < lines; i++) {
                for (int j = 0; j < length; j++) {
                    to.elements[j * lines + i] = from.elements[i * length + j];
                }
            }
        }

        private static void reduce(char sign, NumberArray from, NumberArray to) {
            int lines = Shapes.lines(from.shape);
            int length = Shapes.length(from.shape);
            for (int i = 0; i < lines; i++) {
                double sofar = from.elements[i * length];
                for (int j = 1; j < length; j++) {
                    sofar = combined(sign, sofar, from.elements[i * length + j]);
                }
                to.elements[i] = sofar;
            }
        }

        private static void runAlong(char sign, NumberArray from, NumberArray to) {
            int lines = Shapes.lines(from.shape);
            int length = Shapes.length(from.shape);
            for (int i = 0; i < lines; i++) {
                double sofar = from.elements[i * length];
                to.elements[i * length] = sofar;
                for (int j = 1; j < length; j++) {
                    sofar = combined(sign, sofar, from.elements[i * length + j]);
                    to.elements[i * length + j] = sofar;
                }
            }
        }

        private static void combineEach(char sign, NumberArray x, NumberArray y, NumberArray to) {
            int count = to.count();
            for (int k = 0; k < count; k++) {
                to.elements[k] = combined(sign, elementFor(x, k), elementFor(y, k));
            }
        }

        /** A number alone goes with each element of the other. */
        private static double elementFor(NumberArray x, int k) {
            return x.elements[x.shape == NUMBER_ALONE ? 0 : k];
        }

        private static void join(NumberArray x, NumberArray y, NumberArray to) {
            int first = x.count();
            int count = to.count();
            for (int k = 0; k < count; k++) {
                to.elements[k] = k < first ? x.elements[k] : y.elements[k - first];
            }
        }

        private static void fillAnew(NumberArray from, NumberArray to) {
            int count = to.count();
            int last = from.count() - 1;
            int next = 0;
            for (int k = 0; k < count; k++) {
                to.elements[k] = from.elements[next];
                next = next < last ? next + 1 : 0;
            }
        }

        private static double combined(char sign, double x, double y) {
            double result = combinedFreely(sign, x, y);
            if (!isInRange(result)) {
                throw new ArithmeticException("a result out of range");
            }
            return result;
        }

        private static double combinedFreely(char sign, double x, double y) {
            switch (sign) {
                case '+': return x + y;
                case '-': return x - y;
                case '*': return x * y;
                case '<': return x < y ? 1 : 0;
                case '>': return x > y ? 1 : 0;
                case '=': return x == y ? 1 : 0;
                case '&': return x < y ? x : y;
                default: return x > y ? x : y;
            }
        }
    }
}
