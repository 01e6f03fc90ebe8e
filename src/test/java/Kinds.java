/** The kinds of lists as the document's table has them: numbers of parts, and which operands are as said. */
final class Kinds {
    static final int LAST = 26;
    /** As many parts as the form has room for. */
    static final int ANY = 99;
    static final int[] LEAST = {
        2, 2, 2, 2, 2, 2, 3, 0, 1, 1, 1, 0, 1, 1, 2, 1, 1, 1, 1, 1, 1, 1, 1, 0, 1, 2, 0};
    static final int[] MOST = {
        2, 2, 2, 2, 2, 2, 3, ANY, 1, ANY, ANY, ANY, 1, ANY, 2, ANY, ANY, ANY, ANY, 1, 1, 1, 1, 3, 1, 2, 0};
    /** The lowest and the highest first operand; a kind that uses none has a pair out of order. */
    private static final int[] LOW = {
        0, 0, 0, 0, 0, 0, 0, 0, 0, 8, 0, 0, 0, 0, 0, 0, 1, 1, 0, 0, 1, 1, 0, 0, 0, 0, 8};
    private static final int[] HIGH = {
        -1, -1, -1, -1, -1, -1, -1, -1, 11, 11, -1, 7, 7, -1, -1, -1, 9, 9, 7, 7, 9, 9, -1, 5, 3, 3, 11};

    private Kinds() {
    }

    static boolean usesFirst(int op) {
        return LOW[op] <= HIGH[op];
    }

    static boolean usesSecond(int op) {
        return op == 16 || op == 17 || op == 18;
    }

    static boolean namesType(int op) {
        return op == 16 || op == 17 || op == 20 || op == 21;
    }

    /** Whether a is a first operand as said, types being those of a new object and so many more. */
    static boolean takesFirst(int op, int a, int moreTypes) {
        return a >= LOW[op] && a <= HIGH[op] + (namesType(op) ? moreTypes : 0);
    }

    static boolean takesSecond(int b) {
        return b >= 0 && b <= 11;
    }

    /** A first operand that the kind takes; 1 wherever 1 is one, so that BLOCK 1 serves RETURN. */
    static int goodFirst(int op) {
        return LOW[op] == 8 ? 8 : 1;
    }
}
