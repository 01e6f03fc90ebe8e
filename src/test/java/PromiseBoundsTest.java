/** The sentences of promises 1 and 7 to 18 that name a boundary case, and the 512 calls: a test for each. */
public final class PromiseBoundsTest {
    private static final int MIN = Integer.MIN_VALUE;
    private static final int MAX = Integer.MAX_VALUE;
    private static final int OK = ConditionLisp.OK;
    private static final int INCOMPLETE = ConditionLisp.INCOMPLETE;
    private static final int BAD = ConditionLisp.BAD;
    private static final int FULL = ConditionLisp.FULL;
    private static final Checks CHECKS = new Checks();
    private static final Bench B = new Bench(CHECKS);

    private PromiseBoundsTest() {
    }

    public static void main(String[] args) {
        depthIs1To5();
        fuelIs1To200();
        defineTakesEveryFunction();
        defineTakesThePlaceOfAnEarlierOne();
        defineEmptiesTheForm();
        defineOfAnIncompleteForm();
        defineOfABadFunction();
        defineOfMoreThan200Nodes();
        defineCountsTheOthersAlone();
        defineTestsInTheirOrder();
        definedFormsOf56Nodes();
        runOfAnIncompleteForm();
        runEmptiesTheForm();
        answersBeforeAnyRun();
        answersOfTheLatestRun();
        otherCallsLeaveTheAnswers();
        typesUpTo15();
        typeOfNoParent();
        typeRefusedChangesNothing();
        valueOfOkAlone();
        errorAndDatumOfUnhandledAlone();
        placeOfEveryNode();
        placeInFunctions();
        beatsOfEveryEnding();
        outputKeepsTheFirst24();
        outputOfAnyOtherK();
        specialIsSignExtended();
        specialOfNoSpecialVariable();
        cellOfNoArrayOrElement();
        localsAre0WhenARunBegins();
        returnKeepsToItsForm();
        returnKeepsToItsCall();
        returnInTheClauseOfAHandle();
        the512thCall();
        CHECKS.end("PromiseBoundsTest");
    }

    private static ConditionLisp fresh() {
        return new ConditionLisp(5, 200);
    }

    /** A form of so many nodes, whose value is that number. */
    private static void build(ConditionLisp x, int nodes) {
        if (nodes == 1) {
            x.num(1);
            return;
        }
        x.open(7, 0, 0);
        for (int n = 1; n < nodes; n++) {
            x.num(nodes);
        }
        x.close();
    }

    private static int define(ConditionLisp x, int f, int nodes) {
        build(x, nodes);
        return x.define(f, 0);
    }

    private static void calls(ConditionLisp x, String form, int value) {
        CHECKS.same(form + ": run()", Forms.run(x, form), OK);
        CHECKS.same(form + ": value()", x.value(), value);
    }

    // ---- promise 1 ----

    private static void depthIs1To5() {
        CHECKS.about("promise 1: depth below 1 becomes 1, above 5 becomes 5");
        int[] tried = {MIN, -5, -1, 0, 1, 2, 3, 4, 5, 6, 7, 100, 257, MAX};
        int[] due = {1, 1, 1, 1, 1, 2, 3, 4, 5, 5, 5, 5, 5, 5};
        for (int i = 0; i < tried.length; i++) {
            B.renew(tried[i], 200);
            B.define(0, 1, "(if v0 (call 0 (sub v0 1)) 60)");
            B.value("(call 0 " + (due[i] - 1) + ")", 60);
            B.unhandled("(call 0 " + due[i] + ")", 7, due[i], 102);
        }
    }

    private static void fuelIs1To200() {
        CHECKS.about("promise 1: fuel below 1 becomes 1, above 200 becomes 200");
        int[] tried = {MIN, -200, -1, 0, 1, 2, 3, 100, 198, 199, 200, 201, 202, 255, 256, 456, MAX};
        int[] due = {1, 1, 1, 1, 1, 2, 3, 100, 198, 199, 200, 200, 200, 200, 200, 200, 200};
        for (int i = 0; i < tried.length; i++) {
            B.renew(5, tried[i]);
            B.value("(seq (set 0 " + due[i] + ") (while (set 0 (sub v0 1))))", 0);
            B.beats(due[i]);
            B.outOfFuel("(seq (set 0 " + (due[i] + 1) + ") (while (set 0 (sub v0 1))))");
            B.beats(due[i]);
        }
    }

    // ---- promises 7 and 18: define ----

    private static void defineTakesEveryFunction() {
        CHECKS.about("promise 7: makes the form the definition of function f with that number of parameters");
        String[] parts = {"", " 1", " 1 2", " 1 2 3"};
        for (int f = 0; f <= 5; f++) {
            for (int params = 0; params <= 3; params++) {
                B.renew();
                B.define(f, params, "(add 50 (add v0 (add v1 v2)))");
                B.value("(call " + f + parts[params] + ")", new int[] {50, 51, 53, 56}[params]);
                B.unhandled("(call " + f + parts[(params + 1) % 4] + ")", 9, (params + 1) % 4, 0);
                B.unhandled("(call " + (f + 1) % 6 + ")", 8, (f + 1) % 6, 0);
            }
        }
    }

    private static void defineTakesThePlaceOfAnEarlierOne() {
        B.fresh("promise 7: instead of an earlier one");
        B.define(0, 1, "(add v0 (add 1 (add 2 3)))");
        B.define(1, 0, "(call 0 1)");
        B.value("(call 1)", 7);
        B.define(0, 2, "v1");
        B.unhandled("(call 1)", 9, 1, 200);
        B.value("(call 0 3 4)", 4);
        B.define(0, 1, "(error 2 v0)");
        B.unhandled("(call 1)", 2, 1, 100);
        B.define(0, 1, "(seq 1 2 3 4 (set 0 v0) (add v0 9))");
        B.value("(call 1)", 10);
    }

    private static void defineEmptiesTheForm() {
        CHECKS.about("promise 7: and then empties the form: OK");
        ConditionLisp x = fresh();
        CHECKS.same("define(0, 0)", define(x, 0, 56), OK);
        CHECKS.same("run()", x.run(), INCOMPLETE);
        CHECKS.same("define(0, 0)", x.define(0, 0), INCOMPLETE);
        CHECKS.no("close()", x.close());
        build(x, 56);
        CHECKS.same("define(1, 0) of 56 nodes more", x.define(1, 0), OK);
        calls(x, "(add (call 0) (call 1))", 112);
    }

    private static void defineOfAnIncompleteForm() {
        CHECKS.about("promise 7: INCOMPLETE if the form is not complete, changing nothing");
        for (int f : new int[] {2, 0, -1, 6}) {
            Twins.unchanged(CHECKS, "define(" + f + ", 1) of nothing", x -> { }, x -> x.define(f, 1), INCOMPLETE);
            Twins.unchanged(CHECKS, "define(" + f + ", 1) of an open list", x -> x.open(7, 0, 0),
                x -> x.define(f, 1), INCOMPLETE);
            Twins.unchanged(CHECKS, "define(" + f + ", 1) with a closed list in an open one", x -> {
                x.open(7, 0, 0);
                x.open(7, 0, 0);
                x.close();
            }, x -> x.define(f, 1), INCOMPLETE);
        }
    }

    private static void defineOfABadFunction() {
        CHECKS.about("promise 7: BAD if f is not 0 to 5 or params not 0 to 3, changing nothing");
        int[] values = {MIN, MIN + 1, -257, -6, -2, -1, 0, 1, 2, 3, 4, 5, 6, 7, 8, 256, 259, 65536, MAX - 1, MAX};
        for (int f : values) {
            for (int params : values) {
                ConditionLisp x = fresh();
                x.num(5);
                boolean good = f >= 0 && f <= 5 && params >= 0 && params <= 3;
                CHECKS.same("define(" + f + ", " + params + ")", x.define(f, params), good ? OK : BAD);
                CHECKS.same("run()", x.run(), good ? INCOMPLETE : OK);
            }
        }
        int[][] bad = {{-1, 1}, {6, 1}, {2, -1}, {2, 4}, {-1, 4}, {6, -1}, {MIN, 1}, {MAX, 1}, {2, MIN}, {2, MAX}};
        for (int[] b : bad) {
            Twins.unchanged(CHECKS, "define(" + b[0] + ", " + b[1] + ")", x -> Forms.build(x, "(add 3 v1)"),
                x -> x.define(b[0], b[1]), BAD);
        }
    }

    private static void defineOfMoreThan200Nodes() {
        CHECKS.about("promise 7: FULL if there would be more than 200 nodes, changing nothing");
        for (int f = 0; f <= 5; f++) {
            ConditionLisp x = fresh();
            for (int g = 1; g <= 4; g++) {
                CHECKS.same("define of 45", define(x, (f + g) % 6, 45), OK);
            }
            CHECKS.same("define() to 201 nodes", define(x, f, 21), FULL);
            CHECKS.same("run(): the form stayed", x.run(), OK);
            CHECKS.same("value()", x.value(), 21);
            CHECKS.same("define() to 200 nodes", define(x, f, 20), OK);
            CHECKS.same("define() of one node more", define(x, (f + 5) % 6, 1), FULL);
            x.drop();
            calls(x, "(call " + f + ")", 20);
        }
        // The function that the twins have takes 3 nodes.
        Twins.unchanged(CHECKS, "define() to 201 nodes", x -> {
            define(x, 0, 56);
            define(x, 1, 56);
            define(x, 3, 56);
            build(x, 30);
        }, x -> x.define(4, 0), FULL);
        Twins.unchanged(CHECKS, "define() to 201 nodes instead of 200", x -> {
            define(x, 0, 56);
            define(x, 1, 56);
            define(x, 3, 56);
            define(x, 4, 29);
            build(x, 30);
        }, x -> x.define(4, 1), FULL);
    }

    private static void defineCountsTheOthersAlone() {
        CHECKS.about("promise 7: this form's nodes and those of the definitions of the OTHER functions");
        ConditionLisp x = fresh();
        CHECKS.same("define(0) of 56", define(x, 0, 56), OK);
        CHECKS.same("define(1) of 56", define(x, 1, 56), OK);
        CHECKS.same("define(2) of 56", define(x, 2, 56), OK);
        CHECKS.same("define(3) of 32: 200 in all", define(x, 3, 32), OK);
        CHECKS.same("define(3) of 32 again", define(x, 3, 32), OK);
        CHECKS.same("define(3) of 33", define(x, 3, 33), FULL);
        CHECKS.same("define(0, 0) of the same 33, instead of 56", x.define(0, 0), OK);
        CHECKS.same("define(3) of 55", define(x, 3, 55), OK);
        CHECKS.same("define(4) of 1", define(x, 4, 1), FULL);
        x.drop();
        CHECKS.same("define(1) of 56 again", define(x, 1, 56), OK);
        calls(x, "(add (add (call 0) (call 1)) (add (call 2) (call 3)))", 200);
    }

    private static void defineTestsInTheirOrder() {
        CHECKS.about("promise 18: define tests INCOMPLETE first, then BAD, then FULL; the form stays when it is refused");
        ConditionLisp x = fresh();
        for (int f = 0; f < 4; f++) {
            define(x, f, 50);
        }
        CHECKS.same("define(6, 0) of nothing", x.define(6, 0), INCOMPLETE);
        CHECKS.same("define(4, 4) of nothing", x.define(4, 4), INCOMPLETE);
        x.open(7, 0, 0);
        CHECKS.same("define(-1, 0) of an open list", x.define(-1, 0), INCOMPLETE);
        CHECKS.same("define(4, 0) of an open list", x.define(4, 0), INCOMPLETE);
        x.num(8);
        x.close();
        CHECKS.same("define(6, 0) of too many", x.define(6, 0), BAD);
        CHECKS.same("define(-1, 0) of too many", x.define(-1, 0), BAD);
        CHECKS.same("define(4, 4) of too many", x.define(4, 4), BAD);
        CHECKS.same("define(4, -1) of too many", x.define(4, -1), BAD);
        CHECKS.same("define(4, 0) of too many", x.define(4, 0), FULL);
        CHECKS.same("run() of the form that stayed", x.run(), OK);
        CHECKS.same("value()", x.value(), 8);
    }

    private static void definedFormsOf56Nodes() {
        CHECKS.about("promise 7: a definition has up to 56 nodes, as the form has");
        for (int f = 0; f <= 5; f++) {
            ConditionLisp x = fresh();
            x.open(7, 0, 0);
            for (int n = 1; n < 55; n++) {
                x.num(n);
            }
            x.ref(9);
            x.close();
            CHECKS.same("define(" + f + ", 0)", x.define(f, 0), OK);
            CHECKS.same("run()", Forms.run(x, "(call " + f + ")"), ConditionLisp.UNHANDLED);
            CHECKS.same("place()", x.place(), 100 * (1 + f) + 55);
            calls(x, "(bind 9 4 (call " + f + "))", 4);
        }
    }

    // ---- promise 8: run ----

    private static void runOfAnIncompleteForm() {
        CHECKS.about("promise 8: if the form is not complete: INCOMPLETE, and nothing changes");
        Twins.unchanged(CHECKS, "run() of nothing", x -> { }, x -> x.run(), INCOMPLETE);
        Twins.unchanged(CHECKS, "run() of an open list", x -> x.open(7, 0, 0), x -> x.run(), INCOMPLETE);
        Twins.unchanged(CHECKS, "run() with a PRINT in an open list", x -> {
            x.open(7, 0, 0);
            Forms.build(x, "(print 4) (set 8 4) (inca 1 1 4)");
        }, x -> x.run(), INCOMPLETE);
    }

    private static void runEmptiesTheForm() {
        CHECKS.about("promise 8: otherwise evaluates it and empties it: OK, UNHANDLED or FUEL");
        String[] forms = {"5", "(seq (error 2 3))", "(seq (while 1))"};
        for (int answer = 0; answer < 3; answer++) {
            ConditionLisp x = fresh();
            CHECKS.same("run()", Forms.run(x, forms[answer]), answer);
            CHECKS.same("run() again", x.run(), INCOMPLETE);
            CHECKS.no("close()", x.close());
            build(x, 56);
            CHECKS.no("num() as node 56", x.num(1));
            CHECKS.same("run()", x.run(), OK);
            CHECKS.same("value()", x.value(), 56);
        }
    }

    private static void answersBeforeAnyRun() {
        CHECKS.about("promise 8: before any: 0, 0, 0, -1, 0, nothing");
        ConditionLisp x = fresh();
        for (int i = 0; i < 3; i++) {
            CHECKS.same("value()", x.value(), 0);
            CHECKS.same("error()", x.error(), 0);
            CHECKS.same("datum()", x.datum(), 0);
            CHECKS.same("place()", x.place(), -1);
            CHECKS.same("beats()", x.beats(), 0);
            for (int k = -2; k <= 25; k++) {
                CHECKS.same("output(" + k + ")", x.output(k), 0);
            }
            if (i == 0) {
                CHECKS.same("run()", x.run(), INCOMPLETE);
                Forms.define(x, 0, 0, "(seq (print 3) (while 1))");
            } else if (i == 1) {
                x.open(22, 0, 0);
                x.num(6);
                CHECKS.same("run()", x.run(), INCOMPLETE);
            }
        }
    }

    private static void answersOfTheLatestRun() {
        B.fresh("promise 8: the answers speak of the latest run()", 5, 3);
        B.define(0, 0, "(print 6)");
        for (int i = 0; i < 2; i++) {
            B.value("(seq (print 7) (call 0) 9)", 9);
            B.printed(7, 6);
            B.beats(1);
            B.unhandled("(seq (print 8) (error 2 4))", 2, 4, 3);
            B.printed(8);
            B.output(1, 0);
            B.beats(0);
            B.outOfFuel("(seq (print 5) (print 4) (while 1))");
            B.printed(5, 4);
            B.beats(3);
            B.unhandled("(call 5)", 8, 5, 0);
            B.printed();
            B.output(0, 0);
            B.beats(0);
        }
    }

    private static void otherCallsLeaveTheAnswers() {
        CHECKS.about("promise 8: the answers speak of the latest run(), whatever else is called");
        String[] forms = {"(seq (print 3) (while 0) 9)", "(seq (print 3) (while 0) (error 2 8))", "(seq (print 3) (while 1))"};
        int[][] due = {{9, 0, 0, -1, 1}, {0, 2, 8, 5, 1}, {0, 0, 0, -1, 4}};
        for (int i = 0; i < 3; i++) {
            ConditionLisp x = new ConditionLisp(5, 4);
            CHECKS.same(forms[i] + ": run()", Forms.run(x, forms[i]), i);
            for (int later = 0; later < 7; later++) {
                CHECKS.same("value() " + later, x.value(), due[i][0]);
                CHECKS.same("error() " + later, x.error(), due[i][1]);
                CHECKS.same("datum() " + later, x.datum(), due[i][2]);
                CHECKS.same("place() " + later, x.place(), due[i][3]);
                CHECKS.same("beats() " + later, x.beats(), due[i][4]);
                CHECKS.same("output(-1) " + later, x.output(-1), 1);
                CHECKS.same("output(0) " + later, x.output(0), 3);
                callOther(x, later);
            }
        }
    }

    private static void callOther(ConditionLisp x, int which) {
        switch (which) {
            case 0: CHECKS.yes("open()", x.open(22, 0, 0)); break;
            case 1: CHECKS.yes("num()", x.num(77)); break;
            case 2: CHECKS.yes("close()", x.close()); break;
            case 3: CHECKS.same("define(0, 0)", x.define(0, 0), OK); break;
            case 4: CHECKS.same("type(2)", x.type(2), 10); break;
            case 5: CHECKS.yes("ref()", x.ref(9)); break;
            default: x.drop(); break;
        }
    }

    // ---- promises 9 and 18: type ----

    private static void typesUpTo15() {
        CHECKS.about("promise 9: answers its number, the next one; 0 if there are 15");
        for (int parent = 1; parent <= 9; parent++) {
            ConditionLisp x = fresh();
            for (int due = 10; due <= 15; due++) {
                CHECKS.same("type(" + parent + ")", x.type(parent), due);
            }
            for (int i = 1; i <= 16; i++) {
                CHECKS.same("type(" + i + ") when there are 15", x.type(i), 0);
            }
        }
        ConditionLisp x = fresh();
        for (int due = 10; due <= 15; due++) {
            CHECKS.same("type(" + (due + 1) + ") before it is", x.type(due + 1), 0);
            CHECKS.same("type(" + due + ") before it is", x.type(due), 0);
            CHECKS.same("type(" + (due - 1) + ")", x.type(due - 1), due);
        }
        calls(x, "(case 9 0 v0 (error 15 5))", 5);
        calls(x, "(case 14 0 v0 (error 15 5))", 5);
        calls(x, "(case 15 0 v0 (signal 14 5))", 0);
    }

    private static void typeOfNoParent() {
        CHECKS.about("promise 9: 0 if parent is no type; promise 18: refused, too, when parent is below 1");
        for (int parent : new int[] {MIN, MIN + 1, MIN + 9, -256, -10, -2, -1, 0, 10, 11, 15, 16, 17, 256, 257, 65537, MAX}) {
            ConditionLisp x = fresh();
            CHECKS.same("type(" + parent + ")", x.type(parent), 0);
            CHECKS.no("open(ERROR 10)", x.open(21, 10, 0));
            CHECKS.same("type(9)", x.type(9), 10);
            CHECKS.yes("open(ERROR 10)", x.open(21, 10, 0));
            CHECKS.no("open(ERROR 11)", fresh().open(21, 11, 0));
        }
    }

    private static void typeRefusedChangesNothing() {
        CHECKS.about("promise 9: 0 (and nothing changes)");
        for (int parent : new int[] {MIN, -1, 0, 11, 15, 16, MAX}) {
            Twins.unchanged(CHECKS, "type(" + parent + ")", x -> x.open(7, 0, 0), x -> x.type(parent), 0);
        }
        Twins.unchanged(CHECKS, "type(1) when there are 15", x -> {
            for (int i = 0; i < 6; i++) {
                x.type(2);
            }
            x.open(7, 0, 0);
        }, x -> x.type(1), 0);
        ConditionLisp x = fresh();
        for (int parent : new int[] {3, 4, 5, 6, 7, 8}) {
            x.type(parent);
        }
        x.type(1);
        x.type(15);
        calls(x, "(case 8 0 v0 (signal 15 5))", 5);
        calls(x, "(case 3 0 v0 (signal 10 5))", 5);
        calls(x, "(case 4 0 v0 (signal 10 5))", 0);
        calls(x, "(case 2 0 v0 (signal 1 5))", 0);
        CHECKS.no("open(ERROR 16)", x.open(21, 16, 0));
    }

    // ---- promises 10 to 14 ----

    private static void valueOfOkAlone() {
        B.fresh("promise 10: the value if the run answered OK, else 0", 5, 3);
        for (int v : new int[] {0, -1, MAX, MIN}) {
            B.value("" + v, v);
            B.value("7", 7);
            B.unhandled("(seq 8 (error 2 9))", 2, 9, 2);
            B.value("7", 7);
            B.outOfFuel("(seq 8 (while 1))");
        }
    }

    private static void errorAndDatumOfUnhandledAlone() {
        B.fresh("promises 11 and 12: the type and the datum of the error if it answered UNHANDLED, else 0", 5, 3);
        for (int datum : new int[] {0, -1, 6, MAX, MIN}) {
            B.unhandled("(error 9 " + datum + ")", 9, datum, 0);
            B.value("(case 9 0 3 (error 9 " + datum + "))", 3);
            B.unhandled("(error 1 " + datum + ")", 1, datum, 0);
            B.outOfFuel("(protect (error 2 " + datum + ") (while 1))");
        }
        B.renew();
        B.unhandled("(protect (error 3 5) (case 2 0 1 (error 4 6)))", 3, 5, 1);
        B.unhandled("(catch 1 (protect (throw 1 5) (error 4 6)))", 4, 6, 6);
    }

    private static void placeOfEveryNode() {
        CHECKS.about("promise 13: the number of the node, without the second summand if it stands in the form that was run");
        for (int at = 0; at <= 55; at++) {
            ConditionLisp x = fresh();
            for (int n = 0; n < at; n++) {
                CHECKS.yes("node " + n, n == 0 ? x.open(7, 0, 0) : x.num(n));
            }
            x.ref(11);
            x.close();
            CHECKS.same("run()", x.run(), ConditionLisp.UNHANDLED);
            CHECKS.same("place()", x.place(), at);
        }
    }

    private static void placeInFunctions() {
        B.fresh("promise 13: plus 100 times (1 + the number of the function in whose definition it stands)");
        for (int f = 0; f <= 5; f++) {
            B.define(f, 0, "(seq 1 v11)");
            B.unhandled("(seq 1 2 3 (call " + f + "))", 4, 11, 100 * (f + 1) + 2);
            B.define(f, 0, "v11");
            B.unhandled("(call " + f + ")", 4, 11, 100 * (f + 1));
        }
        B.renew();
        B.define(0, 0, "(seq 1 2 (signal 1 3))");
        B.define(4, 0, "(handle 1 0 (seq 7 v11) (call 0))");
        B.unhandled("(call 4)", 4, 11, 503);
        B.unhandled("(seq (handle 1 0 v11 (call 0)))", 4, 11, 2);
        B.define(5, 1, "(if v0 (call 5 (sub v0 1)) (div 5 0))");
        B.unhandled("(call 5 3)", 3, 5, 606);
        B.unhandled("(handle 3 0 1 (call 5 3))", 3, 5, 606);
    }

    private static void beatsOfEveryEnding() {
        B.fresh("promise 14: beats used", 5, 4);
        B.define(0, 0, "1");
        B.value("(call 0)", 1);
        B.beats(1);
        B.value("9", 9);
        B.beats(0);
        B.unhandled("(seq (call 0) (while 0) (error 2 5))", 2, 5, 4);
        B.beats(2);
        B.outOfFuel("(seq (call 0) (while 1))");
        B.beats(4);
        B.value("(handle 1 0 (call 0) (signal 1 1) (while 0))", 0);
        B.beats(3);
    }

    // ---- promises 15 to 17 ----

    private static void outputKeepsTheFirst24() {
        CHECKS.about("promise 15: only the first 24 are kept; k = -1: how many were printed (also those not kept)");
        for (int count : new int[] {0, 1, 2, 23, 24, 25, 26, 48, 199}) {
            ConditionLisp x = fresh();
            Forms.run(x, "(while (less v0 " + count + ") (set 0 (add v0 1)) (print (add v0 1000)))");
            CHECKS.same("output(-1)", x.output(-1), count);
            for (int k = 0; k <= 50; k++) {
                CHECKS.same("output(" + k + ") of " + count, x.output(k), k < count && k < 24 ? 1001 + k : 0);
            }
        }
        ConditionLisp x = fresh();
        x.open(10, 0, 0);
        x.num(1);
        for (int n = 0; n < 27; n++) {
            x.open(22, 0, 0);
            x.num(n + 1);
            x.close();
        }
        x.close();
        CHECKS.same("run()", x.run(), ConditionLisp.FUEL);
        CHECKS.same("output(-1)", x.output(-1), 5400);
        CHECKS.same("output(23)", x.output(23), 24);
        CHECKS.same("output(24)", x.output(24), 0);
    }

    private static void outputOfAnyOtherK() {
        CHECKS.about("promise 15: any other k: 0");
        ConditionLisp x = fresh();
        Forms.run(x, "(while (less v0 30) (set 0 (add v0 1)) (print 7))");
        for (int k : new int[] {MIN, MIN + 1, -257, -25, -24, -3, -2, 24, 25, 29, 30, 31, 256, 65536, MAX - 1, MAX}) {
            CHECKS.same("output(" + k + ")", x.output(k), 0);
        }
        Forms.run(x, "(seq (print 8) (print -9))");
        for (int k : new int[] {MIN, -2, 2, 3, 23, 24, MAX}) {
            CHECKS.same("output(" + k + ")", x.output(k), 0);
        }
        CHECKS.same("output(0)", x.output(0), 8);
        CHECKS.same("output(1)", x.output(1), -9);
        CHECKS.same("output(-1)", x.output(-1), 2);
    }

    private static void specialIsSignExtended() {
        B.fresh("promise 16: the global value, sign-extended; 4294967296 if it has none");
        for (int k = 8; k <= 11; k++) {
            B.renew();
            B.special(k, 4294967296L);
            B.value("(set " + k + " 0)", 0);
            B.special(k, 0L);
            B.value("(set " + k + " -1)", -1);
            B.special(k, -1L);
            B.value("(set " + k + " -2147483648)", MIN);
            B.special(k, -2147483648L);
            B.value("(set " + k + " 2147483647)", MAX);
            B.special(k, 2147483647L);
            B.value("(bind " + k + " 5 (set " + k + " 6))", 6);
            B.special(k, 2147483647L);
        }
    }

    private static void specialOfNoSpecialVariable() {
        B.fresh("promise 16: 4294967296 if k is no special variable");
        B.value("(seq (set 0 1) (set 7 2) (set 8 3) (set 9 4) (set 10 5) (set 11 6))", 6);
        for (int k = 8; k <= 11; k++) {
            B.special(k, k - 5);
        }
        for (int k : new int[] {MIN, MIN + 8, -8, -1, 0, 1, 6, 7, 12, 13, 16, 264, 65544, MAX}) {
            B.special(k, 4294967296L);
        }
    }

    private static void cellOfNoArrayOrElement() {
        CHECKS.about("promise 17: element i of array a; 0 if there is no such array or element");
        ConditionLisp x = fresh();
        for (int a = 0; a <= 3; a++) {
            Forms.run(x, "(while (less v0 16) (inca " + a + " v0 (add v0 " + (a == 0 ? "1" : "30") + ")) (set 0 (add v0 1)))");
        }
        int[] tried = {MIN, MIN + 1, -256, -16, -2, -1, 0, 1, 2, 3, 4, 5, 14, 15, 16, 17, 256, MAX};
        for (int a : tried) {
            for (int i : tried) {
                boolean there = a >= 0 && a <= 3 && i >= 0 && i <= 15;
                int due = a == 0 ? (i + 1) % 2 : i + 30;
                CHECKS.same("cell(" + a + ", " + i + ")", x.cell(a, i), there ? due : 0);
            }
        }
    }

    // ---- promise 18: run and RETURN ----

    private static void localsAre0WhenARunBegins() {
        B.fresh("promise 18: the local variables of a run() are all 0 when it begins", 5, 3);
        String[] ends = {"1", "(error 2 1)", "(while 1)"};
        for (int i = 0; i < 3; i++) {
            for (int v = 0; v <= 7; v++) {
                B.renew(5, 3);
                String form = "(seq (set " + v + " 9) " + ends[i] + ")";
                if (i == 0) {
                    B.value(form, 1);
                } else if (i == 1) {
                    B.unhandled(form, 2, 1, 3);
                } else {
                    B.outOfFuel(form);
                }
                B.value("v" + v, 0);
                B.value("(add 1 v" + v + ")", 1);
                CHECKS.about("promise 18: the local variables of a run() are all 0, also after one that ended in a call");
                B.define(1, 0, form);
                B.define(0, 0, "(call 1)");
                if (i == 0) {
                    B.value("(call 0)", 1);
                } else if (i == 1) {
                    B.unhandled("(call 0)", 2, 1, 203);
                } else {
                    B.outOfFuel("(call 0)");
                }
                B.value("v" + v, 0);
                B.value("(add v" + v + " (set " + v + " 4))", 4);
            }
        }
    }

    private static void returnKeepsToItsForm() {
        B.fresh("promise 18: RETURN goes to the innermost BLOCK a that stands around it in its own form");
        B.define(0, 0, "(add 10 (block 1 (return 1 5)))");
        B.value("(add 1 (block 1 (call 0)))", 16);
        B.value("(add 1 (block 1 (return 1 (call 0)) 99))", 16);
        B.define(1, 0, "(block 1 (call 0) 7)");
        B.value("(block 1 (add 1 (call 1)))", 8);
        B.value("(add 1 (block 1 (add 10 (block 2 (add 20 (block 1 (return 1 5)))))))", 36);
        CHECKS.about("promise 18: RETURN, when the same BLOCK has been deeper before");
        String deeper = "(call 0)";
        for (int i = 0; i < 6; i++) {
            B.value("(add " + deeper + " (call 0))", 30);
            deeper = "(seq " + deeper + ")";
        }
    }

    private static void returnKeepsToItsCall() {
        B.fresh("promise 18: as begun by the call (or run) whose locals it uses");
        B.define(0, 1, "(add 100 (block 0 (if v0 (seq (call 0 (sub v0 1)) (return 0 v0)) (return 0 7)) 99))");
        B.value("(call 0 0)", 107);
        B.value("(call 0 3)", 103);
        B.define(1, 1, "(block 0 (handle 1 1 (if (same v0 2) (return 0 (add 40 v1)) 0) (if v0 (add 100 (call 1 (sub v0 1))) (signal 1 7))))");
        B.value("(call 1 2)", 47);
        B.value("(call 1 3)", 147);
        B.value("(call 1 1)", 100);
        B.define(2, 1, "(block 0 (if v0 (handle 1 1 (return 0 (add v0 v1)) (call 2 (sub v0 1)) 99) (signal 1 7)) 98)");
        B.value("(add 1000 (call 2 1))", 1008);
        B.define(3, 0, "(add 1000 (block 0 (signal 1 5) 50))");
        B.value("(block 0 (handle 1 0 (return 0 (add v0 1)) (call 3)) 99)", 6);
    }

    private static void returnInTheClauseOfAHandle() {
        B.fresh("promise 18: in the clause of a HANDLE this is never a BLOCK that was begun inside the HANDLE's BODY");
        B.value("(add 1 (block 0 (handle 1 0 (return 0 v0) (add 100 (block 0 (signal 1 5) 50)) 60)))", 6);
        B.value("(add 1 (block 0 (handle 1 0 (block 0 (return 0 v0)) (add 100 (block 0 (signal 1 5) 50)))))", 151);
        B.value("(add 1 (block 0 (handle 1 0 (return 0 v0) (add 100 (block 0 (protect (signal 1 5) (print 3)) 50)))))", 6);
        B.printed(3);
        B.value("(add 1 (block 0 (case 1 0 (return 0 v0) (add 100 (block 0 (signal 1 5) 50)))))", 6);
    }

    // ---- 512 calls ----

    private static void the512thCall() {
        CHECKS.about("an object is used for at most 512 calls after it has been made");
        ConditionLisp x = fresh();
        for (int i = 1; i <= 256; i++) {
            CHECKS.yes("num(" + i + ")", x.num(i));
            CHECKS.same("run() as call " + 2 * i, x.run(), OK);
        }
        x = fresh();
        for (int i = 0; i < 102; i++) {
            CHECKS.same("run()", Forms.run(x, "(inca 3 0 1)"), OK);
        }
        CHECKS.same("cell(3, 0) as call 511", x.cell(3, 0), 102);
        CHECKS.same("value() as call 512", x.value(), 101);
        x = fresh();
        for (int i = 0; i < 510; i++) {
            CHECKS.no("close() of nothing", x.close());
        }
        CHECKS.yes("num(4) as call 511", x.num(4));
        CHECKS.same("define(0, 0) as call 512", x.define(0, 0), OK);
        x = fresh();
        for (int i = 0; i < 255; i++) {
            x.open(7, 0, 0);
            x.drop();
        }
        CHECKS.yes("ref(0) as call 511", x.ref(0));
        CHECKS.same("run() as call 512", x.run(), OK);
        x = fresh();
        for (int i = 0; i < 170; i++) {
            x.num(i);
            CHECKS.same("define(5, 0)", x.define(5, 0), OK);
            CHECKS.same("run() of nothing", x.run(), INCOMPLETE);
        }
        CHECKS.same("type(1) as call 511", x.type(1), 10);
        CHECKS.same("type(10) as call 512", x.type(10), 11);
    }
}
