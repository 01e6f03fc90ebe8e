/** The sentences of BUILDING, and of promises 2 to 6, that name a bound or a refusal: a test for each. */
public final class BuildingBoundsTest {
    private static final int MIN = Integer.MIN_VALUE;
    private static final int MAX = Integer.MAX_VALUE;
    private static final int OPEN = 0;
    private static final int NUM = 1;
    private static final int REF = 2;
    private static final String[] WAYS = {"open(SEQ)", "num(5)", "ref(0)"};
    private static final Checks CHECKS = new Checks();

    private BuildingBoundsTest() {
    }

    public static void main(String[] args) {
        nodesAreNumberedAsBegun();
        partsGoToTheInnermostList();
        closeEndsTheInnermostList();
        completeHasANodeAndNoOpenList();
        refusedWhenComplete();
        refusedAt56Nodes();
        fullFormThatCannotBeClosed();
        refusedWhenTheListIsFull();
        onlyTheInnermostListMatters();
        openRefusedAt12Lists();
        openRefusedForNoKind();
        openRefusedForTheFirstOperand();
        openRefusedForTypesToCome();
        openRefusedForTheSecondOperand();
        openRefusedForReturn();
        closeRefusedWhenNoListIsOpen();
        closeRefusedForTooFewParts();
        unusedOperandsAreIgnored();
        everyIntIsANumber();
        referencesTo0To11();
        dropTakesBackAllNodes();
        dropKeepsTheRest();
        CHECKS.end("BuildingBoundsTest");
    }

    private static ConditionLisp fresh() {
        return new ConditionLisp(5, 200);
    }

    private static boolean add(ConditionLisp x, int way) {
        switch (way) {
            case OPEN: return x.open(7, 0, 0);
            case NUM: return x.num(5);
            default: return x.ref(0);
        }
    }

    private static void addRefused(ConditionLisp x) {
        for (int way = OPEN; way <= REF; way++) {
            CHECKS.no(WAYS[way], add(x, way));
        }
    }

    private static void addRefusedChangesNothing(String when, Twins.Past past) {
        for (int way = OPEN; way <= REF; way++) {
            int chosen = way;
            Twins.unchanged(CHECKS, WAYS[way] + " " + when, past, x -> Twins.bit(add(x, chosen)), 0);
        }
    }

    /** A call that is refused wherever it comes: in the empty form, and in lists that take one part more, or many. */
    private static void refusedAnywhere(String text, Twins.Call call) {
        Twins.unchanged(CHECKS, text + " as the root", x -> { }, call, 0);
        for (int op : new int[] {0, 6, 7, 8, 14, 23}) {
            Twins.unchanged(CHECKS, text + " in kind " + op, x -> {
                x.open(op, 1, 0);
                for (int part = 1; part < Kinds.LEAST[op]; part++) {
                    x.num(part);
                }
            }, call, 0);
        }
    }

    private static void ends(ConditionLisp x, int value) {
        CHECKS.same("run()", x.run(), ConditionLisp.OK);
        CHECKS.same("value()", x.value(), value);
    }

    private static void fails(ConditionLisp x, int error, int place) {
        CHECKS.same("run()", x.run(), ConditionLisp.UNHANDLED);
        CHECKS.same("error()", x.error(), error);
        CHECKS.same("place()", x.place(), place);
    }

    /** A SEQ with so many nodes, itself among them, that is still open. */
    private static void openSeq(ConditionLisp x, int nodes) {
        x.open(7, 0, 0);
        for (int n = 1; n < nodes; n++) {
            x.num(n);
        }
    }

    private static void nodesAreNumberedAsBegun() {
        CHECKS.about("BUILDING: numbered 0, 1, .. in the order in which they are begun");
        String[] forms = {"v9", "(error 2 v1)", "(seq v9)", "(add (add 1 2) (error 2 3))", "(seq (seq) (seq (seq)) v9)",
            "(add (seq 1 (seq 2 3)) v9)", "(error 2 (seq v9))", "(print (div (add 1 2) 0))"};
        int[] places = {0, 0, 1, 4, 4, 6, 2, 1};
        int[] errors = {4, 2, 4, 2, 4, 4, 4, 3};
        for (int i = 0; i < forms.length; i++) {
            ConditionLisp x = fresh();
            Forms.build(x, forms[i]);
            fails(x, errors[i], places[i]);
        }
        ConditionLisp x = fresh();
        openSeq(x, 55);
        x.ref(9);
        x.close();
        fails(x, 4, 55);
        x = fresh();
        x.open(7, 0, 0);
        x.open(27, 0, 0);
        x.ref(12);
        x.open(12, 0, 0);
        x.open(0, 0, 0);
        x.close();
        x.num(1);
        x.num(1);
        x.num(1);
        x.close();
        x.ref(9);
        x.close();
        fails(x, 4, 4);
    }

    private static void partsGoToTheInnermostList() {
        CHECKS.about("BUILDING: open() begins a list inside the innermost open list (or as the root)");
        ConditionLisp x = fresh();
        CHECKS.yes("open() as the root", x.open(1, 0, 0));
        CHECKS.yes("open() inside", x.open(2, 0, 0));
        CHECKS.yes("num(3)", x.num(3));
        CHECKS.yes("open() inside that", x.open(1, 0, 0));
        CHECKS.yes("num(20)", x.num(20));
        CHECKS.yes("ref(0)", x.ref(0));
        CHECKS.yes("close()", x.close());
        CHECKS.yes("close()", x.close());
        CHECKS.yes("num(4)", x.num(4));
        CHECKS.yes("close()", x.close());
        ends(x, 56);
    }

    private static void closeEndsTheInnermostList() {
        CHECKS.about("BUILDING: close() ends the innermost open list");
        ConditionLisp x = fresh();
        x.open(1, 0, 0);
        x.open(7, 0, 0);
        x.open(7, 0, 0);
        x.num(9);
        CHECKS.yes("close() of the inner SEQ", x.close());
        CHECKS.yes("close() of the outer SEQ", x.close());
        CHECKS.no("close() of the SUB with one part", x.close());
        x.num(2);
        CHECKS.yes("close() of the SUB", x.close());
        ends(x, 7);
    }

    private static void incomplete(ConditionLisp x) {
        CHECKS.same("run()", x.run(), ConditionLisp.INCOMPLETE);
        CHECKS.same("define(0, 0)", x.define(0, 0), ConditionLisp.INCOMPLETE);
    }

    private static void completeHasANodeAndNoOpenList() {
        CHECKS.about("BUILDING: the form is COMPLETE when it has a node and no list is open");
        ConditionLisp x = fresh();
        incomplete(x);
        x.open(7, 0, 0);
        incomplete(x);
        x.open(7, 0, 0);
        x.num(1);
        incomplete(x);
        x.close();
        incomplete(x);
        x.close();
        ends(x, 1);
        incomplete(x);
        x.num(6);
        ends(x, 6);
        x.ref(6);
        ends(x, 0);
        x.open(7, 0, 0);
        x.close();
        CHECKS.same("define(0, 0)", x.define(0, 0), ConditionLisp.OK);
        incomplete(x);
        x.num(6);
        CHECKS.same("define(0, 0)", x.define(0, 0), ConditionLisp.OK);
        incomplete(x);
    }

    private static void refusedWhenComplete() {
        CHECKS.about("BUILDING: open, num and ref are refused if the form is complete");
        for (String form : new String[] {"7", "v3", "(seq)", "(seq 7)", "(add 3 4)", "(bound 8)"}) {
            ConditionLisp x = fresh();
            Forms.build(x, form);
            addRefused(x);
            ends(x, form.equals("7") || form.startsWith("(seq 7") || form.startsWith("(add") ? 7 : 0);
            addRefusedChangesNothing("after " + form, y -> Forms.build(y, form));
        }
    }

    private static void refusedAt56Nodes() {
        CHECKS.about("BUILDING: open, num and ref are refused if the form has 56 nodes");
        int[] values = {0, 5, 0};
        for (int last = OPEN; last <= REF; last++) {
            ConditionLisp x = fresh();
            openSeq(x, 55);
            CHECKS.yes(WAYS[last] + " as the 56th node", add(x, last));
            addRefused(x);
            if (last == OPEN) {
                CHECKS.yes("close() of the 56th node", x.close());
                addRefused(x);
            }
            CHECKS.yes("close()", x.close());
            ends(x, values[last]);
        }
        addRefusedChangesNothing("at 56 nodes", x -> openSeq(x, 56));
        addRefusedChangesNothing("at 56 nodes, the last an open list", x -> {
            openSeq(x, 55);
            x.open(7, 0, 0);
        });
    }

    private static void fullFormThatCannotBeClosed() {
        CHECKS.about("BUILDING: 56 nodes, the last a list that needs a part");
        ConditionLisp x = fresh();
        openSeq(x, 55);
        CHECKS.yes("open(PRINT) as the 56th node", x.open(22, 0, 0));
        addRefused(x);
        CHECKS.no("close()", x.close());
        incomplete(x);
        x.drop();
        x.num(3);
        ends(x, 3);
    }

    private static void addParts(ConditionLisp x, int count) {
        for (int n = 0; n < count; n++) {
            CHECKS.yes("part " + n, n % 2 == 0 ? x.num(n) : x.ref(n % 8));
        }
    }

    /** In BLOCK 1, so that RETURN may stand there too: two nodes, and room for 54 parts. */
    private static void openKind(ConditionLisp x, int op, int parts) {
        x.open(11, 1, 0);
        CHECKS.yes("open(" + op + ")", x.open(op, Kinds.goodFirst(op), 0));
        addParts(x, parts);
    }

    private static void refusedWhenTheListIsFull() {
        for (int op = 0; op <= Kinds.LAST; op++) {
            CHECKS.about("BUILDING: refused if the list has as many parts as kind " + op + " allows");
            boolean any = Kinds.MOST[op] == Kinds.ANY;
            int most = any ? 54 : Kinds.MOST[op];
            for (int way = OPEN; way <= REF; way++) {
                for (int parts = 0; parts <= most; parts++) {
                    ConditionLisp x = fresh();
                    openKind(x, op, parts);
                    CHECKS.same(WAYS[way] + " after " + parts, Twins.bit(add(x, way)), parts < most ? 1 : 0);
                }
            }
            if (!any) {
                int kind = op;
                addRefusedChangesNothing("in a full list", x -> openKind(x, kind, Kinds.MOST[kind]));
            }
        }
    }

    private static void onlyTheInnermostListMatters() {
        CHECKS.about("BUILDING: it is the innermost open list that has as many parts as its kind allows");
        ConditionLisp x = fresh();
        x.open(0, 0, 0);
        x.num(1);
        x.open(7, 0, 0);
        CHECKS.yes("num(2) in a SEQ in a full ADD", x.num(2));
        CHECKS.yes("ref(0) there", x.ref(0));
        CHECKS.yes("open(ADD) there", x.open(0, 0, 0));
        addParts(x, 2);
        addRefused(x);
        x.close();
        CHECKS.yes("num(3) in the SEQ", x.num(3));
        x.close();
        addRefused(x);
        x.close();
        ends(x, 4);
    }

    private static void openRefusedAt12Lists() {
        CHECKS.about("BUILDING: open is refused if 12 lists are open");
        for (int outer : new int[] {7, 11, 10, 13, 22}) {
            ConditionLisp x = fresh();
            for (int n = 1; n <= 12; n++) {
                CHECKS.yes("open() number " + n, x.open(n == 12 ? 7 : outer, 0, 0));
            }
            CHECKS.no("open() number 13", x.open(7, 0, 0));
            CHECKS.no("open() number 13", x.open(26, 8, 0));
        }
        ConditionLisp x = fresh();
        for (int n = 1; n <= 12; n++) {
            x.open(7, 0, 0);
        }
        CHECKS.no("open() number 13", x.open(7, 0, 0));
        CHECKS.yes("num(4): open alone is refused", x.num(4));
        CHECKS.yes("ref(0): open alone is refused", x.ref(0));
        CHECKS.no("open() number 13", x.open(7, 0, 0));
        CHECKS.yes("close()", x.close());
        CHECKS.yes("open() with 11 open, more than 12 in all", x.open(7, 0, 0));
        CHECKS.no("open() number 13", x.open(7, 0, 0));
        CHECKS.yes("num(6)", x.num(6));
        for (int n = 1; n <= 12; n++) {
            CHECKS.yes("close()", x.close());
        }
        ends(x, 6);
        Twins.unchanged(CHECKS, "open() with 12 open", y -> {
            for (int n = 1; n <= 12; n++) {
                y.open(7, 0, 0);
            }
        }, y -> Twins.bit(y.open(7, 0, 0)), 0);
    }

    private static void openRefusedForNoKind() {
        CHECKS.about("BUILDING: open is refused if op is none of those below");
        for (int op = -40; op <= 80; op++) {
            ConditionLisp x = fresh();
            x.open(11, 1, 0);
            boolean kind = op >= 0 && op <= Kinds.LAST;
            CHECKS.same("open(" + op + ")", Twins.bit(x.open(op, kind ? Kinds.goodFirst(op) : 1, 1)), kind ? 1 : 0);
        }
        for (int op : new int[] {MIN, MIN + 1, MIN + 7, MAX, MAX - 1, 256, 263, 65536, 65543, -249}) {
            CHECKS.no("open(" + op + ", 1, 1)", fresh().open(op, 1, 1));
        }
        for (int op : new int[] {-1, 27, 28, 29, MIN, MAX}) {
            refusedAnywhere("open(" + op + ", 1, 1)", x -> Twins.bit(x.open(op, 1, 1)));
        }
    }

    private static void openRefusedForTheFirstOperand() {
        int[] far = {MIN, MIN + 1, MIN + 8, MAX, MAX - 1, 256, 257, 264, 65537, 65544, -248};
        for (int op = 0; op <= Kinds.LAST; op++) {
            CHECKS.about("BUILDING: open is refused if a of kind " + op + " is not as said");
            if (!Kinds.usesFirst(op)) {
                continue;
            }
            int kind = op;
            for (int i = 0; i < 60; i++) {
                int a = i < far.length ? far[i] : i - 28;
                ConditionLisp x = fresh();
                blockFor(x, op, a);
                CHECKS.same("open(" + op + ", " + a + ", 0)", Twins.bit(x.open(op, a, 0)),
                    Twins.bit(Kinds.takesFirst(op, a, 0)));
            }
            // The twins have one type more than a new object.
            for (int a = -1; a <= 13; a++) {
                int tried = a;
                if (!Kinds.takesFirst(op, a, 1)) {
                    refusedAnywhere("open(" + op + ", " + a + ", 0)", x -> Twins.bit(x.open(kind, tried, 0)));
                }
            }
        }
    }

    /** RETURN a needs its BLOCK a. */
    private static void blockFor(ConditionLisp x, int op, int a) {
        if (op == 12) {
            x.open(11, a, 0);
        }
    }

    private static void openRefusedForTypesToCome() {
        for (int op = 0; op <= Kinds.LAST; op++) {
            CHECKS.about("BUILDING: a of kind " + op + " is a type, also one that type() added");
            if (!Kinds.namesType(op)) {
                continue;
            }
            ConditionLisp x = fresh();
            for (int more = 0; more <= 6; more++) {
                CHECKS.yes("open() with type " + (9 + more), x.open(op, 9 + more, 0));
                x.drop();
                CHECKS.no("open() with type " + (10 + more), x.open(op, 10 + more, 0));
                CHECKS.no("open() with type 0", x.open(op, 0, 0));
                x.type(1);
            }
            CHECKS.no("open() with type 16", x.open(op, 16, 0));
        }
    }

    private static void openRefusedForTheSecondOperand() {
        int[] far = {MIN, MIN + 1, MAX, MAX - 1, 256, 65536, -256};
        for (int op = 16; op <= 18; op++) {
            CHECKS.about("BUILDING: open is refused if b of kind " + op + " is not as said");
            int kind = op;
            for (int i = 0; i < 50; i++) {
                int b = i < far.length ? far[i] : i - 20;
                CHECKS.same("open(" + op + ", 1, " + b + ")", Twins.bit(fresh().open(op, 1, b)),
                    Twins.bit(Kinds.takesSecond(b)));
                CHECKS.no("open(" + op + ", 77, " + b + ")", fresh().open(op, 77, b));
            }
            for (int b : new int[] {-1, 12, MIN, MAX}) {
                refusedAnywhere("open(" + op + ", 1, " + b + ")", x -> Twins.bit(x.open(kind, 1, b)));
            }
        }
    }

    private static void openRefusedForReturn() {
        CHECKS.about("RETURN a needs an open BLOCK a around it (in this form)");
        for (int a = 0; a <= 7; a++) {
            for (int b = 0; b <= 7; b++) {
                ConditionLisp x = fresh();
                CHECKS.no("RETURN " + b + " as the root", x.open(12, b, 0));
                x.open(11, a, 0);
                CHECKS.same("RETURN " + b + " in BLOCK " + a, Twins.bit(x.open(12, b, 0)), a == b ? 1 : 0);
            }
        }
        ConditionLisp x = fresh();
        x.open(7, 0, 0);
        x.open(11, 3, 0);
        x.open(13, 0, 0);
        CHECKS.yes("RETURN 3 deeper inside", x.open(12, 3, 0));
        x.num(1);
        x.close();
        x.close();
        x.close();
        CHECKS.no("RETURN 3 after BLOCK 3 was closed", x.open(12, 3, 0));
        x.close();
        x.run();
        CHECKS.no("RETURN 3 after a form with BLOCK 3 was run", x.open(12, 3, 0));
        x.open(11, 3, 0);
        x.drop();
        CHECKS.no("RETURN 3 after BLOCK 3 was dropped", x.open(12, 3, 0));
        Forms.define(x, 0, 0, "(block 3)");
        CHECKS.no("RETURN 3 after BLOCK 3 was defined", x.open(12, 3, 0));
        for (int op : new int[] {8, 18, 19, 20, 21, 23, 24, 25}) {
            ConditionLisp y = fresh();
            y.open(op, 3, 0);
            CHECKS.no("RETURN 3 in kind " + op + " 3", y.open(12, 3, 0));
        }
        Twins.unchanged(CHECKS, "open(12, 2, 0)", y -> y.open(11, 3, 0), y -> Twins.bit(y.open(12, 2, 0)), 0);
        refusedAnywhere("open(12, 2, 0)", y -> Twins.bit(y.open(12, 2, 0)));
    }

    private static void closeRefusedWhenNoListIsOpen() {
        CHECKS.about("BUILDING: close is refused if no list is open");
        CHECKS.no("close() of a new object", fresh().close());
        for (String form : new String[] {"8", "v2", "(seq)", "(add (seq 3) 4)"}) {
            ConditionLisp x = fresh();
            Forms.build(x, form);
            CHECKS.no("close() after " + form, x.close());
            CHECKS.same("run()", x.run(), ConditionLisp.OK);
            CHECKS.no("close() after run()", x.close());
            Twins.unchanged(CHECKS, "close() after " + form, y -> Forms.build(y, form), y -> Twins.bit(y.close()), 0);
        }
        Twins.unchanged(CHECKS, "close() of nothing", y -> { }, y -> Twins.bit(y.close()), 0);
    }

    private static void closeRefusedForTooFewParts() {
        for (int op = 0; op <= Kinds.LAST; op++) {
            CHECKS.about("BUILDING: close is refused if the list has fewer parts than kind " + op + " needs");
            int kind = op;
            for (int parts = 0; parts <= Kinds.MOST[op] && parts <= 5; parts++) {
                int count = parts;
                boolean enough = parts >= Kinds.LEAST[op];
                ConditionLisp x = fresh();
                openKind(x, op, parts);
                CHECKS.same("close() after " + parts, Twins.bit(x.close()), Twins.bit(enough));
                if (!enough) {
                    Twins.unchanged(CHECKS, "close() after " + parts, y -> openKind(y, kind, count),
                        y -> Twins.bit(y.close()), 0);
                }
            }
        }
    }

    /** A form in which every list is opened with the same operands wherever its kind does not use them. */
    private static void buildOdd(ConditionLisp x, int[][] calls, int odd) {
        for (int[] c : calls) {
            boolean taken;
            if (c.length == 0) {
                taken = x.close();
            } else if (c.length == 1) {
                taken = x.num(c[0]);
            } else {
                int a = Kinds.usesFirst(c[0]) ? c[1] : odd;
                int b = Kinds.usesSecond(c[0]) ? c[2] : odd;
                taken = x.open(c[0], a, b);
            }
            CHECKS.yes("a call with the odd operand " + odd, taken);
        }
    }

    private static void unusedOperandsAreIgnored() {
        CHECKS.about("BUILDING: operands that a kind does not use are ignored");
        int[] end = {};
        int[][][] forms = {
            {{0, 0}, {7}, {2}, end}, {{1, 0}, {7}, {2}, end}, {{2, 0}, {7}, {2}, end}, {{3, 0}, {7}, {2}, end},
            {{4, 0}, {2}, {7}, end}, {{5, 0}, {7}, {7}, end}, {{6, 0}, {1}, {8}, {9}, end}, {{7, 0}, {3}, {4}, end},
            {{8, 3}, {5}, end}, {{9, 8}, {5}, {6}, end}, {{0, 0}, {10, 0}, {0}, {1}, end, {2}, end},
            {{11, 4}, {12, 4}, {6}, end, {7}, end}, {{13, 0}, {4}, {14, 0}, {4}, {3}, end, {9}, end},
            {{15, 0}, {5}, {6}, end}, {{16, 1, 0}, {9}, {5}, end}, {{17, 1, 0}, {9}, {20, 2}, {5}, end, {7}, end},
            {{18, 6, 0}, {9}, {19, 6}, {5}, end, {7}, end}, {{17, 3, 1}, {6}, {21, 3}, {4}, end, end},
            {{0, 0}, {20, 2}, {4}, end, {6}, end}, {{22, 0}, {3}, end}, {{23, 1}, {3}, end},
            {{24, 1}, {2}, end}, {{25, 1}, {2}, {5}, end}, {{26, 9}, end}};
        int[] values = {9, 5, 14, 3, 1, 1, 8, 4, 5, 6, 2, 6, 3, 5, 5, 9, 9, 6, 6, 3, 103, 60, 60, 1};
        for (int odd : new int[] {0, 1, -1, 8, 12, 16, 99, MIN, MAX}) {
            for (int i = 0; i < forms.length; i++) {
                ConditionLisp x = fresh();
                Forms.define(x, 1, 1, "(add v0 100)");
                Forms.run(x, "(seq (inca 1 2 60) (set 9 7))");
                buildOdd(x, forms[i], odd);
                ends(x, values[i]);
            }
        }
    }

    private static void everyIntIsANumber() {
        CHECKS.about("promise 3: num adds the number v");
        for (int v : new int[] {0, 1, -1, 11, 12, 127, 128, -128, -129, 32768, 65536, MAX, MIN, MAX - 1, MIN + 1}) {
            ConditionLisp x = fresh();
            CHECKS.yes("num(" + v + ")", x.num(v));
            ends(x, v);
            x.open(7, 0, 0);
            CHECKS.yes("num(" + v + ") in a list", x.num(v));
            x.close();
            ends(x, v);
        }
    }

    private static void referencesTo0To11() {
        CHECKS.about("promise 4: ref is refused also if v is not 0 to 11");
        for (int v = -40; v <= 40; v++) {
            CHECKS.same("ref(" + v + ")", Twins.bit(fresh().ref(v)), v >= 0 && v <= 11 ? 1 : 0);
            ConditionLisp x = fresh();
            x.open(7, 0, 0);
            CHECKS.same("ref(" + v + ") in a list", Twins.bit(x.ref(v)), v >= 0 && v <= 11 ? 1 : 0);
        }
        for (int v : new int[] {-1, 12, 256, 267, 65536, MIN, MIN + 1, MAX}) {
            CHECKS.no("ref(" + v + ")", fresh().ref(v));
            refusedAnywhere("ref(" + v + ")", x -> Twins.bit(x.ref(v)));
        }
        for (int v = 0; v <= 11; v++) {
            ConditionLisp x = fresh();
            x.open(7, 0, 0);
            x.open(8, v, 0);
            x.num(50 + v);
            x.close();
            x.ref(v);
            x.close();
            ends(x, 50 + v);
        }
    }

    private static void dropTakesBackAllNodes() {
        CHECKS.about("promise 6: drop takes back all nodes; the form is empty");
        String[] whole = {"4", "v3", "(seq 1 2)"};
        for (int state = 0; state < 6; state++) {
            ConditionLisp x = fresh();
            if (state < 3) {
                Forms.build(x, whole[state]);
            } else if (state == 3) {
                openSeq(x, 56);
            } else if (state == 4) {
                openSeq(x, 2);
                for (int n = 2; n <= 12; n++) {
                    x.open(7, 0, 0);
                }
            }
            x.drop();
            CHECKS.no("close()", x.close());
            incomplete(x);
            for (int n = 1; n <= 12; n++) {
                CHECKS.yes("open() number " + n, x.open(7, 0, 0));
            }
            CHECKS.no("open() number 13", x.open(7, 0, 0));
            for (int n = 12; n < 55; n++) {
                CHECKS.yes("node " + n, x.num(n));
            }
            CHECKS.yes("node 55", x.ref(9));
            CHECKS.no("node 56", x.num(56));
            for (int n = 1; n <= 12; n++) {
                CHECKS.yes("close()", x.close());
            }
            fails(x, 4, 55);
        }
    }

    private static void dropKeepsTheRest() {
        CHECKS.about("promise 6: drop takes back nodes and nothing else");
        Twins.unchanged(CHECKS, "drop() of nothing", x -> { }, x -> {
            x.drop();
            return 0;
        }, 0);
        Twins.unchanged(CHECKS, "drop() of what was built", x -> { }, x -> {
            openSeq(x, 20);
            x.open(8, 9, 0);
            x.drop();
            return 0;
        }, 0);
    }
}
