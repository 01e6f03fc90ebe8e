/** BUILDING: promises 2 to 7 and 9, and the order and limits of 18 that concern them. */
public final class BuildingTest {
    private static final Checks CHECKS = new Checks();

    private BuildingTest() {
    }

    public static void main(String[] args) {
        partsOfEachKind();
        operandsOfEachKind();
        openLimits();
        leaves();
        closing();
        dropping();
        defining();
        definedNodes();
        types();
        CHECKS.end("BuildingTest");
    }

    private static ConditionLisp fresh() {
        return new ConditionLisp(5, 200);
    }

    /** A form in which a list of any kind may stand: RETURN needs its BLOCK. */
    private static ConditionLisp opened(int op) {
        ConditionLisp x = fresh();
        x.open(11, 1, 0);
        CHECKS.yes("open(" + op + ")", x.open(op, Kinds.goodFirst(op), 0));
        return x;
    }

    private static void partsOfEachKind() {
        for (int op = 0; op <= 26; op++) {
            CHECKS.about("promise 2 to 5: parts of kind " + op);
            ConditionLisp x = opened(op);
            for (int n = 0; n < Kinds.LEAST[op]; n++) {
                CHECKS.no("close() with " + n + " parts", x.close());
                CHECKS.yes("num() as part " + n, n % 2 == 0 ? x.num(n) : x.ref(n % 12));
            }
            int most = Kinds.MOST[op] == Kinds.ANY ? 54 : Kinds.MOST[op];
            for (int n = Kinds.LEAST[op]; n < most; n++) {
                CHECKS.yes("num() as part " + n, n % 2 == 0 ? x.num(n) : x.ref(n % 12));
            }
            CHECKS.no("num() beyond", x.num(7));
            CHECKS.no("ref() beyond", x.ref(0));
            CHECKS.no("open() beyond", x.open(7, 0, 0));
            CHECKS.yes("close()", x.close());
            CHECKS.yes("close() of the block", x.close());
            CHECKS.no("close() of a complete form", x.close());
        }
    }

    private static void operandRange(int op, int low, int high, int b) {
        CHECKS.about("promise 2: operand a of kind " + op);
        int[] tried = {low, high, low - 1, high + 1, Integer.MIN_VALUE, Integer.MAX_VALUE};
        for (int i = 0; i < tried.length; i++) {
            ConditionLisp x = fresh();
            CHECKS.same("open(" + op + ", " + tried[i] + ", " + b + ")", x.open(op, tried[i], b) ? 1 : 0, i < 2 ? 1 : 0);
            CHECKS.same("num(1) after it", x.num(1) ? 1 : 0, i < 2 && Kinds.MOST[op] == 0 ? 0 : 1);
            if (i >= 2) {
                CHECKS.same("run() of the number alone", x.run(), ConditionLisp.OK);
            }
        }
    }

    private static void secondOperand(int op) {
        CHECKS.about("promise 2: operand b of kind " + op);
        int[] tried = {0, 11, -1, 12, Integer.MIN_VALUE, Integer.MAX_VALUE};
        for (int i = 0; i < tried.length; i++) {
            CHECKS.same("open(" + op + ", 1, " + tried[i] + ")", fresh().open(op, 1, tried[i]) ? 1 : 0, i < 2 ? 1 : 0);
        }
    }

    private static void operandsOfEachKind() {
        operandRange(8, 0, 11, 0);
        operandRange(9, 8, 11, 0);
        operandRange(11, 0, 7, 0);
        operandRange(16, 1, 9, 0);
        operandRange(17, 1, 9, 0);
        operandRange(18, 0, 7, 0);
        operandRange(19, 0, 7, 0);
        operandRange(20, 1, 9, 0);
        operandRange(21, 1, 9, 0);
        operandRange(23, 0, 5, 0);
        operandRange(24, 0, 3, 0);
        operandRange(25, 0, 3, 0);
        operandRange(26, 8, 11, 0);
        secondOperand(16);
        secondOperand(17);
        secondOperand(18);
        CHECKS.about("promise 2: unused operands are ignored");
        int[] noOperand = {0, 1, 2, 3, 4, 5, 6, 7, 10, 13, 14, 15, 22};
        for (int op : noOperand) {
            CHECKS.yes("open(" + op + ", -99, 99)", fresh().open(op, -99, 99));
        }
        int[] oneOperand = {8, 9, 11, 19, 20, 21, 23, 24, 25, 26};
        for (int op : oneOperand) {
            CHECKS.yes("open(" + op + ", good, -99)", fresh().open(op, Kinds.goodFirst(op), -99));
        }
        CHECKS.about("promise 2: kinds that are none");
        for (int op : new int[] {-1, 27, 28, 29, 100, Integer.MIN_VALUE, Integer.MAX_VALUE}) {
            CHECKS.no("open(" + op + ", 1, 1)", fresh().open(op, 1, 1));
        }
        returnNeedsBlock();
    }

    private static void returnNeedsBlock() {
        CHECKS.about("promise 2: RETURN needs an open BLOCK around it");
        ConditionLisp x = fresh();
        CHECKS.no("RETURN 0 as the root", x.open(12, 0, 0));
        x.open(7, 0, 0);
        x.open(11, 3, 0);
        x.close();
        CHECKS.no("RETURN 3 after its BLOCK is closed", x.open(12, 3, 0));
        x.open(11, 4, 0);
        CHECKS.no("RETURN 3 in BLOCK 4", x.open(12, 3, 0));
        CHECKS.no("RETURN 8", x.open(12, 8, 0));
        CHECKS.no("RETURN -1", x.open(12, -1, 0));
        x.open(15, 4, 0);
        CHECKS.yes("RETURN 4 inside a PROTECT in BLOCK 4", x.open(12, 4, 99));
        ConditionLisp y = fresh();
        y.open(19, 3, 0);
        CHECKS.no("RETURN 3 in INVOKE 3", y.open(12, 3, 0));
    }

    private static void openLimits() {
        CHECKS.about("promise 2: twelve open lists");
        ConditionLisp x = fresh();
        for (int n = 1; n <= 12; n++) {
            CHECKS.yes("open() number " + n, x.open(7, 0, 0));
        }
        CHECKS.no("open() number 13", x.open(7, 0, 0));
        CHECKS.yes("num() in the twelfth", x.num(5));
        CHECKS.yes("close() of the twelfth", x.close());
        CHECKS.yes("open() again", x.open(7, 0, 0));
        for (int n = 12; n >= 1; n--) {
            CHECKS.yes("close() of list " + n, x.close());
        }
        CHECKS.same("run()", x.run(), ConditionLisp.OK);
        CHECKS.about("promise 2 to 4: 56 nodes");
        for (int n = 0; n < 56; n++) {
            CHECKS.yes("node " + n, n == 0 ? x.open(7, 0, 0) : x.num(n));
        }
        CHECKS.no("num() as node 56", x.num(56));
        CHECKS.no("ref() as node 56", x.ref(0));
        CHECKS.no("open() as node 56", x.open(7, 0, 0));
        CHECKS.yes("close()", x.close());
        CHECKS.same("run()", x.run(), ConditionLisp.OK);
        CHECKS.same("value()", x.value(), 55);
    }

    private static void leaves() {
        CHECKS.about("promise 3: a number alone is a form");
        for (int v : new int[] {0, 7, -1, Integer.MIN_VALUE, Integer.MAX_VALUE}) {
            ConditionLisp x = fresh();
            CHECKS.yes("num(" + v + ")", x.num(v));
            CHECKS.no("num() when complete", x.num(1));
            CHECKS.no("ref() when complete", x.ref(1));
            CHECKS.no("open() when complete", x.open(7, 0, 0));
            CHECKS.same("run()", x.run(), ConditionLisp.OK);
            CHECKS.same("value()", x.value(), v);
        }
        CHECKS.about("promise 4: references");
        for (int v = -2; v <= 13; v++) {
            CHECKS.same("ref(" + v + ")", fresh().ref(v) ? 1 : 0, v >= 0 && v <= 11 ? 1 : 0);
        }
        CHECKS.no("ref(MIN)", fresh().ref(Integer.MIN_VALUE));
        CHECKS.no("ref(MAX)", fresh().ref(Integer.MAX_VALUE));
        ConditionLisp x = fresh();
        x.ref(12);
        CHECKS.same("run() after a refused ref", x.run(), ConditionLisp.INCOMPLETE);
    }

    private static void closing() {
        CHECKS.about("promise 5");
        ConditionLisp x = fresh();
        CHECKS.no("close() of nothing", x.close());
        x.open(1, 0, 0);
        x.num(9);
        CHECKS.no("close() of SUB with one part", x.close());
        x.open(0, 0, 0);
        x.num(1);
        CHECKS.no("close() of the inner ADD with one part", x.close());
        x.num(2);
        CHECKS.yes("close() of the inner ADD", x.close());
        CHECKS.same("run() with an open list", x.run(), ConditionLisp.INCOMPLETE);
        CHECKS.yes("close() of SUB", x.close());
        CHECKS.no("close() once more", x.close());
        x.run();
        CHECKS.same("value()", x.value(), 6);
    }

    private static void dropping() {
        CHECKS.about("promise 6");
        ConditionLisp x = fresh();
        x.drop();
        CHECKS.same("run() of the empty form", x.run(), ConditionLisp.INCOMPLETE);
        x.open(7, 0, 0);
        x.open(0, 0, 0);
        x.num(1);
        x.drop();
        CHECKS.no("close() after drop", x.close());
        CHECKS.same("run() after drop", x.run(), ConditionLisp.INCOMPLETE);
        CHECKS.yes("num() after drop", x.num(4));
        x.drop();
        CHECKS.same("define() after drop", x.define(0, 0), ConditionLisp.INCOMPLETE);
        Forms.run(x, "(error 2 5)");
        Forms.build(x, "(seq 1 2)");
        x.drop();
        CHECKS.same("error() stays", x.error(), 2);
        Forms.run(x, "(block 1 (error 1 8))");
        CHECKS.same("place(): numbers begin anew", x.place(), 1);
    }

    private static void defining() {
        CHECKS.about("promise 7 and 18");
        ConditionLisp x = fresh();
        CHECKS.same("define(-1, -1) of nothing", x.define(-1, -1), ConditionLisp.INCOMPLETE);
        x.open(7, 0, 0);
        CHECKS.same("define(0, 0) with an open list", x.define(0, 0), ConditionLisp.INCOMPLETE);
        x.close();
        int[][] bad = {{-1, 0}, {6, 0}, {0, -1}, {0, 4}, {Integer.MIN_VALUE, 0}, {Integer.MAX_VALUE, 3}};
        for (int[] b : bad) {
            CHECKS.same("define(" + b[0] + ", " + b[1] + ")", x.define(b[0], b[1]), ConditionLisp.BAD);
        }
        CHECKS.same("define(5, 3): the form stayed", x.define(5, 3), ConditionLisp.OK);
        CHECKS.same("define(5, 3) again: the form is empty", x.define(5, 3), ConditionLisp.INCOMPLETE);
        CHECKS.same("call with 3", Forms.run(x, "(call 5 1 2 3)"), ConditionLisp.OK);
        CHECKS.same("call with 2", Forms.run(x, "(call 5 1 2)"), ConditionLisp.UNHANDLED);
        Forms.define(x, 5, 1, "(add v0 100)");
        Forms.run(x, "(call 5 1)");
        CHECKS.same("value() of the new definition", x.value(), 101);
        Forms.define(x, 0, 0, "(block 2 (seq (return 2 (call 5 7)) 9))");
        Forms.run(x, "(block 2 (add 1 (call 0)))");
        CHECKS.same("value() of a definition with RETURN", x.value(), 108);
        CHECKS.same("run() after define", x.run(), ConditionLisp.INCOMPLETE);
    }

    private static void buildOfSize(ConditionLisp x, int size) {
        x.open(7, 0, 0);
        for (int n = 1; n < size; n++) {
            x.num(size);
        }
        x.close();
    }

    private static void definedNodes() {
        CHECKS.about("promise 7: 200 nodes in all");
        ConditionLisp x = fresh();
        for (int f = 0; f < 4; f++) {
            buildOfSize(x, 50);
            CHECKS.same("define(" + f + ")", x.define(f, 0), ConditionLisp.OK);
        }
        x.num(3);
        CHECKS.same("define(4) as node 201", x.define(4, 0), ConditionLisp.FULL);
        CHECKS.same("define(6): BAD before FULL", x.define(6, 0), ConditionLisp.BAD);
        CHECKS.same("run(): the form stayed", x.run(), ConditionLisp.OK);
        CHECKS.same("value()", x.value(), 3);
        Forms.run(x, "(call 4)");
        CHECKS.same("error(): 4 has no definition", x.error(), 8);
        buildOfSize(x, 51);
        CHECKS.same("define(3) with 51 instead of 50", x.define(3, 0), ConditionLisp.FULL);
        CHECKS.same("INCOMPLETE before BAD and FULL", fresh().define(9, 9), ConditionLisp.INCOMPLETE);
        x.drop();
        Forms.run(x, "(call 3)");
        CHECKS.same("value(): the old definition stayed", x.value(), 50);
        buildOfSize(x, 49);
        CHECKS.same("define(3) with 49", x.define(3, 0), ConditionLisp.OK);
        x.num(8);
        CHECKS.same("define(4) as node 200", x.define(4, 0), ConditionLisp.OK);
        Forms.run(x, "(add (call 3) (call 4))");
        CHECKS.same("value()", x.value(), 57);
    }

    private static void types() {
        CHECKS.about("promise 9 and 18");
        ConditionLisp x = fresh();
        for (int parent : new int[] {0, -1, 10, 40, Integer.MIN_VALUE, Integer.MAX_VALUE}) {
            CHECKS.same("type(" + parent + ")", x.type(parent), 0);
        }
        CHECKS.no("open(ERROR 10) before type 10 is", x.open(21, 10, 0));
        CHECKS.same("type(1)", x.type(1), 10);
        CHECKS.yes("open(ERROR 10)", x.open(21, 10, 0));
        x.drop();
        CHECKS.same("type(10)", x.type(10), 11);
        CHECKS.same("type(11)", x.type(11), 12);
        CHECKS.same("type(9)", x.type(9), 13);
        CHECKS.same("type(2)", x.type(2), 14);
        CHECKS.same("type(14)", x.type(14), 15);
        CHECKS.same("type(1) when there are 15", x.type(1), 0);
        CHECKS.same("type(15) when there are 15", x.type(15), 0);
        // The row of each type: which types it is, as bits.
        int[] isA = {0, 0b10, 0b110, 0b1110, 0b10110, 0b100110, 0b1000110, 0b10000110, 0b100000110, 0b1000000110,
            0b10000000010, 0b110000000010, 0b1110000000010, 0b10001000000110, 0b100000000000110, 0b1100000000000110};
        for (int t = 1; t <= 15; t++) {
            ConditionLisp y = fresh();
            for (int parent : new int[] {1, 10, 11, 9, 2, 14}) {
                y.type(parent);
            }
            for (int a = 1; a <= 15; a++) {
                Forms.run(y, "(case " + a + " 0 1 (signal " + t + " 5))");
                CHECKS.same("type " + t + " is a " + a, y.value(), isA[t] >> a & 1);
            }
        }
    }
}
