/** VARIABLES, VALUES and the plain kinds of lists; promises 1, 8 and 10 to 17. */
public final class EvaluationTest {
    private static final long NONE = 4294967296L;
    private static final Checks CHECKS = new Checks();

    private EvaluationTest() {
    }

    public static void main(String[] args) {
        newObject();
        arithmetic();
        branches();
        sequences();
        variables();
        loops();
        calls();
        callErrors();
        arrays();
        printing();
        runAnswers();
        places();
        fuel();
        CHECKS.end("EvaluationTest");
    }

    private static ConditionLisp fresh() {
        return new ConditionLisp(5, 200);
    }

    private static void value(String form, int due) {
        value(fresh(), form, due);
    }

    private static void value(ConditionLisp x, String form, int due) {
        CHECKS.same(form + ": run()", Forms.run(x, form), ConditionLisp.OK);
        CHECKS.same(form + ": value()", x.value(), due);
        CHECKS.same(form + ": error()", x.error(), 0);
        CHECKS.same(form + ": datum()", x.datum(), 0);
        CHECKS.same(form + ": place()", x.place(), -1);
    }

    private static void unhandled(ConditionLisp x, String form, int error, int datum, int place) {
        CHECKS.same(form + ": run()", Forms.run(x, form), ConditionLisp.UNHANDLED);
        CHECKS.same(form + ": value()", x.value(), 0);
        CHECKS.same(form + ": error()", x.error(), error);
        CHECKS.same(form + ": datum()", x.datum(), datum);
        CHECKS.same(form + ": place()", x.place(), place);
    }

    private static void newObject() {
        CHECKS.about("promise 1 and 8: before any run");
        ConditionLisp x = fresh();
        CHECKS.same("value()", x.value(), 0);
        CHECKS.same("error()", x.error(), 0);
        CHECKS.same("datum()", x.datum(), 0);
        CHECKS.same("place()", x.place(), -1);
        CHECKS.same("beats()", x.beats(), 0);
        for (int k = -2; k < 26; k++) {
            CHECKS.same("output(" + k + ")", x.output(k), 0);
        }
        for (int k = 8; k <= 11; k++) {
            CHECKS.same("special(" + k + ")", x.special(k), NONE);
        }
        for (int i = 0; i < 64; i++) {
            CHECKS.same("cell()", x.cell(i / 16, i % 16), 0);
        }
        CHECKS.same("run()", x.run(), ConditionLisp.INCOMPLETE);
        CHECKS.same("place()", x.place(), -1);
        int[][] depths = {{Integer.MIN_VALUE, 1}, {-1, 1}, {0, 1}, {1, 1}, {2, 2}, {4, 4}, {5, 5}, {6, 5}, {Integer.MAX_VALUE, 5}};
        for (int[] d : depths) {
            CHECKS.about("promise 1: depth " + d[0]);
            ConditionLisp y = new ConditionLisp(d[0], 200);
            Forms.define(y, 0, 0, "(call 0)");
            unhandled(y, "(call 0)", 7, d[1], 100);
            CHECKS.same("beats()", y.beats(), d[1]);
        }
        int[][] fuels = {{Integer.MIN_VALUE, 1}, {-1, 1}, {0, 1}, {1, 1}, {2, 2}, {199, 199}, {200, 200}, {201, 200}, {Integer.MAX_VALUE, 200}};
        for (int[] f : fuels) {
            CHECKS.about("promise 1: fuel " + f[0]);
            ConditionLisp y = new ConditionLisp(5, f[0]);
            CHECKS.same("run()", Forms.run(y, "(while 1)"), ConditionLisp.FUEL);
            CHECKS.same("beats()", y.beats(), f[1]);
        }
    }

    private static void arithmetic() {
        CHECKS.about("ADD, SUB, MUL, LESS, SAME");
        value("(add 3 4)", 7);
        value("(add 2147483647 1)", Integer.MIN_VALUE);
        value("(sub 3 4)", -1);
        value("(sub -2147483648 1)", Integer.MAX_VALUE);
        value("(mul -3 4)", -12);
        value("(mul 65536 65536)", 0);
        value("(mul 2147483647 2147483647)", 1);
        value("(less 1 2)", 1);
        value("(less 2 2)", 0);
        value("(less 3 2)", 0);
        value("(less -2147483648 2147483647)", 1);
        value("(same 2 2)", 1);
        value("(same 2 -2)", 0);
        CHECKS.about("DIV");
        value("(div 7 2)", 3);
        value("(div -7 2)", -3);
        value("(div 7 -2)", -3);
        value("(div 0 5)", 0);
        value("(div -2147483648 -1)", Integer.MIN_VALUE);
        unhandled(fresh(), "(div 8 0)", 3, 8, 0);
        unhandled(fresh(), "(add 1 (div 0 0))", 3, 0, 2);
        value("(seq (sub (set 0 5) (set 0 2)))", 3);
        value("(sub (sub 20 3) (sub 9 2))", 10);
    }

    private static void branches() {
        CHECKS.about("IF");
        value("(if 1 10 20)", 10);
        value("(if 0 10 20)", 20);
        value("(if -1 10 (error 2 1))", 10);
        value("(if 0 (error 2 1) (add 1 1))", 2);
        value("(if (sub 3 3) (seq 1 2 3) (if 5 (add 6 7) 8))", 13);
        value("(seq (if 1 (set 0 4) (set 0 5)) v0)", 4);
        value("(if 1 0 7)", 0);
    }

    private static void sequences() {
        CHECKS.about("SEQ and BLOCK");
        value("(seq)", 0);
        value("(seq 4)", 4);
        value("(seq 4 5 6)", 6);
        value("(seq 4 (seq))", 0);
        value("(block 0)", 0);
        value("(block 7 1 2)", 2);
        value("(block 0 (return 0 5) (error 2 1))", 5);
        value("(add 1 (block 0 (add 10 (return 0 5))))", 6);
        value("(block 0 (add 100 (block 0 (return 0 1) 50)))", 101);
        value("(block 0 (add 100 (block 1 (return 0 1) 50)))", 1);
        value("(block 1 (block 0 (return 1 (return 0 4))) 9)", 9);
    }

    private static void variables() {
        CHECKS.about("VARIABLES, SET, BIND, BOUND");
        value("(add (set 7 5) v7)", 10);
        value("v3", 0);
        value("(set 7 -8)", -8);
        ConditionLisp x = fresh();
        value(x, "(set 0 5)", 5);
        value(x, "v0", 0);
        unhandled(x, "v11", 4, 11, 0);
        unhandled(x, "(add 1 v8)", 4, 8, 2);
        value(x, "(bound 8)", 0);
        value(x, "(add (set 8 -5) v8)", -10);
        value(x, "(add (bound 8) v8)", -4);
        CHECKS.same("special(8)", x.special(8), -5);
        value(x, "(seq (bind 8 70 (set 9 v8) (set 8 71) (set 10 v8)) v8)", -5);
        CHECKS.same("special(9)", x.special(9), 70);
        CHECKS.same("special(10)", x.special(10), 71);
        value(x, "(bind 8 1)", 0);
        value(x, "(bind 8 (add v8 1) v8)", -4);
        value(x, "(bind 8 1 (bind 8 2 (set 8 3)) v8)", 1);
        value(x, "(bind 11 6 (add (bound 11) v11))", 7);
        value(x, "(bound 11)", 0);
        value(x, "(bind 11 6 (bind 11 7 (set 11 8)) (set 11 9))", 9);
        CHECKS.same("special(11)", x.special(11), NONE);
        CHECKS.about("promise 16");
        for (int k : new int[] {-1, 0, 7, 12, 13, Integer.MIN_VALUE, Integer.MAX_VALUE}) {
            CHECKS.same("special(" + k + ")", x.special(k), NONE);
        }
        value(x, "(seq (set 8 -2147483648) (set 9 2147483647) (set 10 0))", 0);
        CHECKS.same("special(8)", x.special(8), -2147483648L);
        CHECKS.same("special(9)", x.special(9), 2147483647L);
        CHECKS.same("special(10)", x.special(10), 0L);
        unhandled(x, "(bind 8 5 (set 9 4) (error 2 3))", 2, 3, 4);
        CHECKS.same("special(8)", x.special(8), -2147483648L);
        CHECKS.same("special(9)", x.special(9), 4);
        CHECKS.about("a function sees dynamic bindings, not the caller's locals");
        Forms.define(x, 0, 0, "(add v8 v1)");
        value(x, "(seq (set 1 1000) (bind 8 5 (call 0)))", 5);
        Forms.define(x, 1, 1, "(set 8 v0)");
        value(x, "(bind 8 5 (call 1 6) v8)", 6);
    }

    private static void loops() {
        CHECKS.about("WHILE");
        ConditionLisp x = fresh();
        value(x, "(while 0 (error 2 1))", 0);
        CHECKS.same("beats()", x.beats(), 1);
        value(x, "(seq (set 0 3) (while v0 (print v0) (set 0 (sub v0 1))) (add v0 50))", 50);
        CHECKS.same("beats()", x.beats(), 4);
        CHECKS.same("output(-1)", x.output(-1), 3);
        CHECKS.same("output(2)", x.output(2), 1);
        value(x, "(seq (set 0 3) (while (set 0 (sub v0 1))))", 0);
        CHECKS.same("beats()", x.beats(), 3);
        value(x, "(block 0 (while 1 (return 0 8)))", 8);
        CHECKS.same("beats()", x.beats(), 1);
        value(x, "(seq (set 0 2) (while v0 (set 0 (sub v0 1)) (set 1 2) (while v1 (set 1 (sub v1 1)))))", 0);
        CHECKS.same("beats()", x.beats(), 9);
    }

    private static void calls() {
        CHECKS.about("CALL");
        ConditionLisp x = fresh();
        Forms.define(x, 0, 3, "(add (mul 100 v0) (add (mul 10 v1) v2))");
        value(x, "(call 0 1 2 3)", 123);
        CHECKS.same("beats()", x.beats(), 1);
        Forms.define(x, 1, 1, "(seq (set 5 (add v5 v0)) (set 0 9) (add v5 (add v1 (add v2 (add v3 v7)))))");
        value(x, "(seq (set 0 40) (set 5 41) (set 7 42) (call 1 6) (add (call 1 7) (add v0 v5)))", 88);
        CHECKS.same("beats()", x.beats(), 2);
        Forms.define(x, 2, 1, "(if (less v0 1) 1 (mul v0 (call 2 (sub v0 1))))");
        value(x, "(call 2 4)", 24);
        CHECKS.same("beats()", x.beats(), 5);
        value(x, "(add (call 2 4) (call 2 3))", 30);
        unhandled(x, "(call 2 5)", 7, 5, 307);
        value(x, "(call 0 (call 1 1) (call 1 2) (call 1 3))", 123);
        Forms.define(x, 3, 0, "(block 0 (return 0 (add v0 3)))");
        value(x, "(block 0 (return 0 (add 1 (call 3))))", 4);
        CHECKS.about("CALL: a call that is done is no longer in progress");
        ConditionLisp y = new ConditionLisp(1, 200);
        Forms.define(y, 0, 1, "(add v0 1)");
        value(y, "(call 0 (call 0 (call 0 1)))", 4);
        Forms.define(y, 1, 0, "(throw 1 2)");
        value(y, "(seq (catch 1 (call 1)) (catch 1 (call 1)))", 2);
    }

    private static void callErrors() {
        CHECKS.about("CALL: undefined, arguments, depth, in this order and after the arguments");
        ConditionLisp x = new ConditionLisp(1, 1);
        unhandled(x, "(call 4)", 8, 4, 0);
        unhandled(x, "(seq (call 5 (print 3)))", 8, 5, 1);
        CHECKS.same("output(0)", x.output(0), 3);
        CHECKS.same("beats()", x.beats(), 0);
        Forms.define(x, 0, 2, "(call 0)");
        unhandled(x, "(call 0 (print 1))", 9, 1, 0);
        CHECKS.same("output(-1)", x.output(-1), 1);
        CHECKS.same("beats()", x.beats(), 0);
        unhandled(x, "(call 0 1 2 3)", 9, 3, 0);
        unhandled(x, "(call 0 1 2)", 9, 0, 100);
        Forms.define(x, 0, 0, "(call 3)");
        unhandled(x, "(call 0)", 8, 3, 100);
        Forms.define(x, 0, 0, "(call 0)");
        unhandled(x, "(call 0)", 7, 1, 100);
        CHECKS.same("beats(): depth comes before the beat", x.beats(), 1);
        Forms.define(x, 0, 0, "7");
        CHECKS.same("run(): no fuel for a second call", Forms.run(x, "(add (call 0) (call 0))"), ConditionLisp.FUEL);
    }

    private static void arrays() {
        CHECKS.about("AREF, INCA and promise 17");
        ConditionLisp x = fresh();
        int[][] rows = {
            // array, amount, value then, amount, value then
            {0, 1, 1, 1, 0}, {0, 3, 1, -1, 0}, {0, -1, 1, 2, 1},
            {1, 127, 127, 1, -128}, {1, 200, -56, -100, 100}, {1, 256, 0, -129, 127},
            {2, 32767, 32767, 1, -32768}, {2, 65535, -1, -32768, 32767}, {2, 65536, 0, -1, -1},
            {3, 65535, 65535, 1, 0}, {3, -1, 65535, 70000, 4463}, {3, 2147483647, 65535, 2147483647, 65534}};
        for (int i = 0; i < rows.length; i++) {
            int[] r = rows[i];
            String at = r[0] + " " + i + " ";
            value(x, "(inca " + at + r[1] + ")", 0);
            CHECKS.same("cell(" + r[0] + ", " + i + ")", x.cell(r[0], i), r[2]);
            value(x, "(inca " + at + r[3] + ")", r[2]);
            value(x, "(aref " + at + ")", r[4]);
            CHECKS.same("cell(" + r[0] + ", " + i + ")", x.cell(r[0], i), r[4]);
        }
        ConditionLisp y = fresh();
        value(y, "(seq (inca 2 0 5) (inca 2 15 6) (inca 3 0 7))", 0);
        CHECKS.same("cell(2, 0)", y.cell(2, 0), 5);
        CHECKS.same("cell(2, 15)", y.cell(2, 15), 6);
        CHECKS.same("cell(3, 0)", y.cell(3, 0), 7);
        CHECKS.same("cell(1, 15)", y.cell(1, 15), 0);
        for (int bad : new int[] {-1, 16, 17, 32, Integer.MIN_VALUE, Integer.MAX_VALUE}) {
            CHECKS.same("cell(2, " + bad + ")", y.cell(2, bad), 0);
            CHECKS.same("cell(" + bad + ", 0)", y.cell(bad, 0), 0);
            unhandled(y, "(seq (aref 2 " + bad + "))", 6, bad, 1);
            unhandled(y, "(inca 2 " + bad + " (print 1))", 6, bad, 0);
            CHECKS.same("output(-1)", y.output(-1), 1);
        }
        CHECKS.same("cell(4, 0)", y.cell(4, 0), 0);
        CHECKS.same("cell(-1, 15)", y.cell(-1, 15), 0);
        CHECKS.same("cell(2, 0)", y.cell(2, 0), 5);
    }

    private static void printing() {
        CHECKS.about("PRINT and promise 15");
        ConditionLisp x = fresh();
        value(x, "(add (print 3) (print -4))", -1);
        CHECKS.same("output(-1)", x.output(-1), 2);
        CHECKS.same("output(0)", x.output(0), 3);
        CHECKS.same("output(1)", x.output(1), -4);
        CHECKS.same("output(2)", x.output(2), 0);
        CHECKS.same("output(-2)", x.output(-2), 0);
        value(x, "(seq (set 0 30) (while v0 (print v0) (set 0 (sub v0 1))))", 0);
        CHECKS.same("output(-1)", x.output(-1), 30);
        for (int k = 0; k < 24; k++) {
            CHECKS.same("output(" + k + ")", x.output(k), 30 - k);
        }
        for (int k : new int[] {24, 25, 29, 30, -2, Integer.MIN_VALUE, Integer.MAX_VALUE}) {
            CHECKS.same("output(" + k + ")", x.output(k), 0);
        }
        value(x, "(print 8)", 8);
        CHECKS.same("output(-1)", x.output(-1), 1);
        CHECKS.same("output(0)", x.output(0), 8);
        CHECKS.same("output(1): nothing of the run before", x.output(1), 0);
        value(x, "5", 5);
        CHECKS.same("output(-1)", x.output(-1), 0);
        CHECKS.same("output(0)", x.output(0), 0);
    }

    private static void runAnswers() {
        CHECKS.about("promise 8 and 10 to 14");
        ConditionLisp x = fresh();
        Forms.define(x, 0, 0, "(seq (print 6) 9)");
        value(x, "(call 0)", 9);
        x.open(7, 0, 0);
        CHECKS.same("run() of an incomplete form", x.run(), ConditionLisp.INCOMPLETE);
        CHECKS.same("value() of the run before", x.value(), 9);
        CHECKS.same("beats() of the run before", x.beats(), 1);
        CHECKS.same("output(0) of the run before", x.output(0), 6);
        CHECKS.yes("the form stayed", x.close());
        CHECKS.same("run()", x.run(), ConditionLisp.OK);
        CHECKS.same("value()", x.value(), 0);
        CHECKS.same("beats()", x.beats(), 0);
        CHECKS.same("run() again: the form is empty", x.run(), ConditionLisp.INCOMPLETE);
        unhandled(x, "(error 5 -6)", 5, -6, 0);
        CHECKS.same("run()", x.run(), ConditionLisp.INCOMPLETE);
        CHECKS.same("error() of the run before", x.error(), 5);
        value(x, "4", 4);
        x.num(5);
        x.define(1, 0);
        CHECKS.same("value() after define", x.value(), 4);
        unhandled(x, "(error 5 7)", 5, 7, 0);
        CHECKS.same("run()", Forms.run(x, "(while 1)"), ConditionLisp.FUEL);
        CHECKS.same("value()", x.value(), 0);
        CHECKS.same("error()", x.error(), 0);
        CHECKS.same("datum()", x.datum(), 0);
        CHECKS.same("place()", x.place(), -1);
        CHECKS.same("run(): the form is empty", x.run(), ConditionLisp.INCOMPLETE);
        CHECKS.yes("a new form may be begun", x.num(1));
    }

    private static void places() {
        CHECKS.about("promise 13");
        ConditionLisp x = fresh();
        for (int f = 0; f < 6; f++) {
            Forms.define(x, f, 0, "(seq 1 (seq 2) (error 2 8))");
            unhandled(x, "(seq 0 (call " + f + "))", 2, 8, 100 * (1 + f) + 4);
        }
        Forms.define(x, 0, 0, "(seq v9 5)");
        unhandled(x, "(call 0)", 4, 9, 101);
        CHECKS.about("promise 13: a HANDLE's clause stands in the definition of its HANDLE");
        Forms.define(x, 0, 0, "(signal 1 1)");
        Forms.define(x, 1, 0, "(handle 1 0 (error 2 6) (call 0))");
        unhandled(x, "(call 1)", 2, 6, 201);
        unhandled(x, "(handle 1 0 (error 2 7) (call 0))", 2, 7, 1);
        Forms.define(x, 2, 0, "(error 2 5)");
        unhandled(x, "(handle 1 0 (call 2) (call 0))", 2, 5, 300);
    }

    private static void fuel() {
        CHECKS.about("A BEAT");
        ConditionLisp x = new ConditionLisp(5, 3);
        value(x, "(seq (set 0 3) (while (set 0 (sub v0 1))))", 0);
        CHECKS.same("beats()", x.beats(), 3);
        CHECKS.same("run()", Forms.run(x,
            "(bind 8 1 (set 9 2) (bind 9 3 (protect (catch 1 (while 1 (print 1) (inca 1 0 1))) (print 99))))"),
            ConditionLisp.FUEL);
        CHECKS.same("beats()", x.beats(), 3);
        CHECKS.same("output(-1): no clean-up", x.output(-1), 3);
        CHECKS.same("special(8): its binding has ended", x.special(8), NONE);
        CHECKS.same("special(9) keeps what was set", x.special(9), 2);
        CHECKS.same("cell(1, 0) keeps what was added", x.cell(1, 0), 3);
        value(x, "(seq (set 0 3) (while (set 0 (sub v0 1))))", 0);
        CHECKS.same("a HANDLE's clause needs a beat", Forms.run(x,
            "(handle 1 0 (print 5) (signal 1 1) (signal 1 1) (signal 1 1) (print 6) (signal 1 1) (print 7))"),
            ConditionLisp.FUEL);
        CHECKS.same("output(-1)", x.output(-1), 4);
        value(x, "(case 1 0 v0 (case 1 0 (signal 1 (add v0 1)) (signal 1 4)))", 5);
        CHECKS.same("beats(): a CASE needs none", x.beats(), 0);
        Forms.define(x, 0, 0, "(signal 3 1)");
        value(x, "(handle 2 0 7 (handle 4 0 8 (call 0)))", 0);
        CHECKS.same("beats(): only clauses that apply", x.beats(), 2);
    }
}
