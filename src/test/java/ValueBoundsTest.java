/**
 * The sentences of VARIABLES, TYPES, VALUES, the table of kinds and A BEAT that name a boundary case:
 * a test for each.
 */
public final class ValueBoundsTest {
    private static final int MIN = Integer.MIN_VALUE;
    private static final int MAX = Integer.MAX_VALUE;
    private static final Checks CHECKS = new Checks();
    private static final Bench B = new Bench(CHECKS);

    private ValueBoundsTest() {
    }

    public static void main(String[] args) {
        localsBelongToTheCall();
        specialsBelongToAll();
        noSpecialValueAtTheStart();
        bindingsHideTheGlobalValue();
        typesAndTheirParents();
        partsAreEvaluatedInOrder();
        valuesWrapAround();
        comparisonsAre1Or0();
        divisionGoesTowardsZero();
        divisionOfTheLeastByMinusOne();
        divisionByZero();
        zeroIsFalse();
        branchNotTakenIsNotEvaluated();
        bodyWithoutPartsIsZero();
        bodyIsTheLastPart();
        setOfALocalVariable();
        setOfASpecialVariable();
        bindLastsForTheBody();
        whileEndsWithZero();
        returnGoesToTheInnermostBlock();
        throwGoesToTheInnermostCatch();
        throwWithoutACatch();
        invokeGoesToTheInnermostRestart();
        invokeWithoutARestart();
        printGivesItsValue();
        callOfNoDefinition();
        callWithAnotherNumberOfParts();
        callBeyondTheDepth();
        callTestsInTheirOrder();
        callHasFreshLocals();
        indexIs0To15();
        elementsKeepTheirLowestBits();
        everyElementIsItsOwn();
        incaGivesTheOldValue();
        boundTellsOfACurrentValue();
        referenceWithoutAValue();
        beatsOfWhile();
        beatsOfCall();
        beatsOfHandle();
        whatNeedsNoBeat();
        noFuelEndsAtOnce();
        fuelIsThatOfThisRun();
        rulesRaiseLikeError();
        nodesOfErrors();
        CHECKS.end("ValueBoundsTest");
    }

    // ---- VARIABLES and TYPES ----

    private static void localsBelongToTheCall() {
        B.fresh("VARIABLES 0 to 7 are LOCAL: every call in progress has its own eight, and so has every run()");
        for (int v = 0; v <= 7; v++) {
            B.renew();
            B.define(0, 0, "(seq (set " + v + " 90) v" + v + ")");
            B.value("(seq (set " + v + " 5) (add (call 0) (mul 1000 v" + v + ")))", 5090);
            B.value("v" + v, 0);
            B.value("(seq (call 0) v" + v + ")", 0);
            B.special(v, Bench.NONE);
            B.define(1, 1, "(seq (if v0 (seq (call 1 (sub v0 1)) (set 1 7)) (set " + v + " 90)) v" + v + ")");
            B.value("(call 1 0)", 90);
            B.value("(call 1 2)", v == 0 ? 2 : v == 1 ? 7 : 0);
        }
        B.renew();
        B.value("(seq (set 0 1) (set 1 2) (set 2 3) (set 3 4) (set 4 5) (set 5 6) (set 6 7) (set 7 8)"
            + " (print v0) (print v1) (print v2) (print v3) (print v4) (print v5) (print v6) (print v7))", 8);
        B.printed(1, 2, 3, 4, 5, 6, 7, 8);
    }

    private static void specialsBelongToAll() {
        B.fresh("Variables 8 to 11 are SPECIAL: one global value each");
        for (int v = 8; v <= 11; v++) {
            B.renew();
            B.define(0, 0, "(seq (set " + v + " 90) v" + v + ")");
            B.value("(seq (set " + v + " 5) (call 0) v" + v + ")", 90);
            B.value("v" + v, 90);
            for (int other = 8; other <= 11; other++) {
                B.special(other, other == v ? 90 : Bench.NONE);
            }
        }
    }

    private static void noSpecialValueAtTheStart() {
        B.fresh("Variables 8 to 11 are SPECIAL: none at the start");
        for (int v = 8; v <= 11; v++) {
            B.renew();
            B.special(v, Bench.NONE);
            B.value("(bound " + v + ")", 0);
            B.unhandled("v" + v, 4, v, 0);
            B.special(v, Bench.NONE);
        }
    }

    private static void bindingsHideTheGlobalValue() {
        B.fresh("VARIABLES: dynamic bindings that hide the global value");
        for (int v = 8; v <= 11; v++) {
            B.renew();
            B.define(0, 0, "(print v" + v + ")");
            B.value("(seq (set " + v + " 1) (bind " + v + " 2 (call 0) (bind " + v + " 3 (call 0)) (call 0)) (call 0))", 1);
            B.printed(2, 3, 2, 1);
            B.special(v, 1);
        }
    }

    private static void typesAndTheirParents() {
        B.fresh("TYPES: 1 condition; 2 error, of 1; and 3 to 9, all of 2; a type IS A t if it is t or its parent is a t");
        for (int t = 1; t <= 9; t++) {
            B.renew();
            for (int a = 1; a <= 9; a++) {
                boolean isA = t == a || a == 1 || a == 2 && t > 2;
                B.value("(case " + a + " 0 1 (signal " + t + " 5))", isA ? 1 : 0);
                B.value("(handle " + a + " 0 (print 1) (signal " + t + " 5))", 0);
                B.output(-1, isA ? 1 : 0);
            }
        }
        B.renew();
        CHECKS.same("type(9)", B.type(9), 10);
        CHECKS.same("type(10)", B.type(10), 11);
        CHECKS.same("type(11)", B.type(11), 12);
        int[] ancestors = {12, 11, 10, 9, 2, 1};
        for (int a = 1; a <= 12; a++) {
            boolean isA = false;
            for (int ancestor : ancestors) {
                isA |= ancestor == a;
            }
            B.value("(case " + a + " 0 1 (signal 12 5))", isA ? 1 : 0);
        }
        B.value("(case 12 0 1 (signal 11 5))", 0);
    }

    // ---- VALUES ----

    private static void partsAreEvaluatedInOrder() {
        B.fresh("VALUES: parts are evaluated in order");
        String[] heads = {"(add", "(sub", "(mul", "(div", "(less", "(same", "(inca 1"};
        int[] values = {7, 3, 10, 2, 0, 0, 0};
        for (int i = 0; i < heads.length; i++) {
            B.value(heads[i] + " (print 5) (print 2))", values[i]);
            B.printed(5, 2);
            B.unhandled(heads[i] + " (error 2 (print 5)) (print 2))", 2, 5, 1);
            B.printed(5);
        }
        B.renew();
        B.define(0, 3, "(add v0 (mul 10 (add v1 (mul 10 v2))))");
        B.value("(call 0 (print 5) (print 2) (print 3))", 325);
        B.printed(5, 2, 3);
        B.value("(catch 5 (throw (print 5) (print 2)))", 2);
        B.printed(5, 2);
        B.value("(bind 8 (print 5) (print 2) (print 3))", 3);
        B.printed(5, 2, 3);
        B.value("(catch (print 5) (print 2) (print 3))", 3);
        B.printed(5, 2, 3);
        CHECKS.about("VALUES: parts are evaluated in order, all of them before the test that the list makes");
        B.unhandled("(inca 1 16 (print 2))", 6, 16, 0);
        B.printed(2);
        B.unhandled("(inca 1 16 (div 7 0))", 3, 7, 2);
        B.value("(catch 1 (inca 1 -1 (throw 1 5)))", 5);
        B.unhandled("(throw 9 (print 2))", 5, 9, 0);
        B.printed(2);
        B.unhandled("(throw 9 (div 7 0))", 3, 7, 2);
        B.value("(catch 1 (throw 9 (throw 1 5)))", 5);
    }

    private static void valuesWrapAround() {
        B.fresh("VALUES are ints that wrap around");
        B.value("(add 2147483646 1)", MAX);
        B.value("(add 2147483647 1)", MIN);
        B.value("(add 2147483647 2147483647)", -2);
        B.value("(add -2147483648 -1)", MAX);
        B.value("(add -2147483648 -2147483648)", 0);
        B.value("(sub -2147483647 1)", MIN);
        B.value("(sub -2147483648 1)", MAX);
        B.value("(sub 2147483647 -1)", MIN);
        B.value("(sub 0 -2147483648)", MIN);
        B.value("(mul 65536 32767)", 2147418112);
        B.value("(mul 65536 32768)", MIN);
        B.value("(mul 65536 65536)", 0);
        B.value("(mul -2147483648 -1)", MIN);
        B.value("(mul 2147483647 2)", -2);
        B.value("(mul 2147483647 2147483647)", 1);
        B.value("(mul -3 5)", -15);
    }

    private static void comparisonsAre1Or0() {
        B.fresh("4 LESS, 5 SAME: 1 or 0");
        B.value("(less 4 5)", 1);
        B.value("(less 5 5)", 0);
        B.value("(less 6 5)", 0);
        B.value("(less -1 0)", 1);
        B.value("(less 0 -1)", 0);
        B.value("(less -2147483648 2147483647)", 1);
        B.value("(less 2147483647 -2147483648)", 0);
        B.value("(less -2147483648 1)", 1);
        B.value("(same 5 5)", 1);
        B.value("(same 5 6)", 0);
        B.value("(same 5 4)", 0);
        B.value("(same -2147483648 -2147483648)", 1);
        B.value("(same 0 -2147483648)", 0);
        B.value("(same 7 -7)", 0);
    }

    private static void divisionGoesTowardsZero() {
        B.fresh("3 DIV: the quotient towards zero");
        B.value("(div 7 2)", 3);
        B.value("(div -7 2)", -3);
        B.value("(div 7 -2)", -3);
        B.value("(div -7 -2)", 3);
        B.value("(div 1 2)", 0);
        B.value("(div -1 2)", 0);
        B.value("(div 0 -5)", 0);
        B.value("(div 6 3)", 2);
        B.value("(div -2147483648 1)", MIN);
        B.value("(div -2147483648 2)", -1073741824);
        B.value("(div 2147483647 -2147483648)", 0);
        B.value("(div 5 1)", 5);
        B.value("(div 5 -1)", -5);
    }

    private static void divisionOfTheLeastByMinusOne() {
        B.fresh("3 DIV: -2147483648 by -1 wraps");
        B.value("(div -2147483648 -1)", MIN);
        B.value("(div -2147483647 -1)", MAX);
    }

    private static void divisionByZero() {
        B.fresh("3 DIV: if the second is 0: error arith, datum the first");
        for (int first : new int[] {0, 1, -1, 77, MAX, MIN}) {
            B.renew();
            B.unhandled("(div " + first + " 0)", 3, first, 0);
            B.value("(case 3 0 v0 (add 1 (div " + first + " 0)))", first);
        }
        B.value("(div 4 1)", 4);
        B.value("(div 4 -1)", -4);
        B.value("(div 0 4)", 0);
    }

    private static void zeroIsFalse() {
        B.fresh("VALUES: 0 is false");
        B.value("(if 0 8 9)", 9);
        for (int truth : new int[] {1, -1, 2, 256, 65536, MAX, MIN}) {
            B.renew();
            B.value("(if " + truth + " 8 9)", 8);
            B.value("(block 0 (while " + truth + " (return 0 8)))", 8);
        }
        B.value("(block 0 (while 0 (return 0 8)))", 0);
    }

    private static void branchNotTakenIsNotEvaluated() {
        B.fresh("6 IF: the other one is not evaluated");
        B.value("(if 1 (print 5) (print 6))", 5);
        B.printed(5);
        B.value("(if 0 (print 5) (print 6))", 6);
        B.printed(6);
        B.value("(if (print 3) (seq (print 5) (print 7)) (div 1 0))", 7);
        B.printed(3, 5, 7);
        B.value("(if (seq) (div 1 0) (seq (print 5) (print 7)))", 7);
        B.printed(5, 7);
    }

    private static void bodyWithoutPartsIsZero() {
        B.fresh("BODY: 0 if there are none");
        B.value("(seq)", 0);
        B.value("(block 3)", 0);
        B.value("(bind 8 5)", 0);
        B.value("(catch 5)", 0);
        B.value("(handle 1 0 5)", 0);
        B.value("(case 1 0 5)", 0);
        B.value("(restart 1 0 5)", 0);
        B.value("(seq 5 (seq))", 0);
        B.value("(seq 5 (block 0))", 0);
        B.value("(seq 5 (bind 8 (print 5)))", 0);
        B.printed(5);
        B.value("(seq 5 (catch (print 5)))", 0);
        B.printed(5);
        B.value("(seq 5 (handle 1 0 (print 5)))", 0);
        B.printed();
        B.value("(seq 5 (case 1 0 (print 5)))", 0);
        B.printed();
        B.value("(seq 5 (restart 1 0 (print 5)))", 0);
        B.printed();
        B.define(0, 1, "(seq)");
        B.value("(add 4 (call 0 9))", 4);
        B.value("(protect 5)", 5);
    }

    private static void bodyIsTheLastPart() {
        B.fresh("BODY: parts evaluated in order, whose value is the last one's");
        String[] heads = {"(seq", "(block 3", "(bind 8 5", "(catch 5", "(handle 1 0 5", "(case 1 0 5", "(restart 1 0 5"};
        for (String head : heads) {
            B.renew();
            B.value(head + " 7)", 7);
            B.value(head + " (print 6) (print 0))", 0);
            B.printed(6, 0);
            B.value(head + " (print 6) (print 7) (print 8))", 8);
            B.printed(6, 7, 8);
        }
    }

    private static void setOfALocalVariable() {
        B.fresh("8 SET: a any variable, which is set to the part's value; that is the value");
        for (int v = 0; v <= 11; v++) {
            B.value("(add (set " + v + " -3) (mul 100 v" + v + "))", -303);
        }
        for (int v = 0; v <= 11; v++) {
            B.special(v, v < 8 ? Bench.NONE : -3);
        }
    }

    private static void setOfASpecialVariable() {
        B.fresh("8 SET: its current value is set (that of its innermost binding in progress, else the global one)");
        for (int v = 8; v <= 11; v++) {
            B.renew();
            B.value("(bind " + v + " 1 (set " + v + " 2))", 2);
            B.special(v, Bench.NONE);
            B.value("(bound " + v + ")", 0);
            B.value("(set " + v + " 5)", 5);
            B.special(v, 5);
            B.value("(bind " + v + " 1 (bind " + v + " 2 (set " + v + " 3) (print v" + v + ")) (print v" + v + ")"
                + " (set " + v + " 4) (print v" + v + "))", 4);
            B.printed(3, 1, 4);
            B.special(v, 5);
            B.value("(set " + v + " 6)", 6);
            B.special(v, 6);
        }
    }

    private static void bindLastsForTheBody() {
        B.fresh("9 BIND: a new binding that lasts while the other parts are evaluated");
        B.unhandled("(bind 8 v8 1)", 4, 8, 1);
        B.value("(bind 8 (bound 8) (add v8 (mul 10 (bound 8))))", 10);
        B.value("(bound 8)", 0);
        B.value("(seq (set 8 4) (bind 8 (add v8 1) (print v8)) (print v8))", 4);
        B.printed(5, 4);
        B.value("(bind 8 (set 8 9) 1)", 1);
        B.special(8, 9);
        B.value("(seq (catch 1 (bind 8 5 (throw 1 0))) v8)", 9);
        B.value("(seq (block 1 (bind 8 5 (return 1 0))) v8)", 9);
    }

    private static void whileEndsWithZero() {
        B.fresh("10 WHILE: if the first part is 0, the value is 0; else the others in order");
        B.value("(while 0)", 0);
        B.value("(while 0 (print 5))", 0);
        B.printed();
        B.value("(seq (set 0 2) (while (print v0) (print 7) (set 0 (sub v0 1))))", 0);
        B.printed(2, 7, 1, 7, 0);
        B.value("(seq (set 0 -1) (while v0 (set 0 (add v0 1)) (print 7) 9))", 0);
        B.printed(7);
    }

    // ---- the kinds that leave ----

    private static void returnGoesToTheInnermostBlock() {
        B.fresh("12 RETURN: its value becomes that of the innermost BLOCK a");
        for (int a = 0; a <= 7; a++) {
            B.value("(add 1 (block " + a + " (add 10 (block " + a + " (return " + a + " 5) (print 1)))))", 16);
        }
        B.renew();
        B.value("(add 1 (block 2 (add 10 (block 3 (return 2 5)))))", 6);
        B.value("(add 1 (block 2 (add 10 (block 3 (return 3 5)))))", 16);
        B.value("(block 2 (block 2 1) (return 2 5) 6)", 5);
        B.value("(block 2 (add 1 (return 2 (return 2 5))))", 5);
    }

    private static void throwGoesToTheInnermostCatch() {
        B.fresh("14 THROW: the innermost CATCH in progress (its BODY being evaluated) with that tag");
        B.value("(add 1 (catch 4 (add 10 (catch 4 (throw 4 5) (print 1)))))", 16);
        B.value("(add 1 (catch 4 (add 10 (catch 3 (throw 4 5)))))", 6);
        B.value("(add 1 (catch -2147483648 (add 10 (catch 2147483647 (throw -2147483648 5)))))", 6);
        B.value("(catch 0 (throw 0 0))", 0);
        B.value("(add 1 (catch 4 (catch (throw 4 5) 1)))", 6);
        B.unhandled("(catch (throw 4 5) 1)", 5, 4, 1);
        B.unhandled("(catch (throw 0 5) 1)", 5, 0, 1);
        B.unhandled("(seq (catch 4 1) (catch (throw 4 5) 1))", 5, 4, 5);
        B.unhandled("(seq (catch 4 1) (throw 4 5))", 5, 4, 4);
        B.value("(catch 4 (catch 4 1) (throw 4 5) 6)", 5);
    }

    private static void throwWithoutACatch() {
        B.fresh("14 THROW: if there is none: error control, datum the tag");
        for (int tag : new int[] {0, 4, -1, MAX, MIN}) {
            B.renew();
            B.unhandled("(throw " + tag + " 9)", 5, tag, 0);
            B.value("(catch 7 (case 5 0 v0 (throw " + tag + " (print 9))))", tag);
            B.printed(9);
        }
        B.renew();
        B.unhandled("(catch 3 (throw 4 9))", 5, 4, 2);
        B.unhandled("(catch 5 (throw 4 9))", 5, 4, 2);
    }

    private static void invokeGoesToTheInnermostRestart() {
        B.fresh("19 INVOKE: the innermost RESTART a in progress (its BODY being evaluated) is left");
        for (int a = 0; a <= 7; a++) {
            B.value("(restart " + a + " 0 (add v0 100) (add 10 (restart " + a + " 0 (add v0 1) (invoke " + a + " 5) (print 1))))", 16);
        }
        B.renew();
        B.value("(restart 2 0 (add v0 100) (add 10 (restart 3 0 (add v0 1) (invoke 2 5))))", 105);
        B.value("(restart 2 0 (add v0 100) (restart 2 0 (invoke 2 (add v0 1)) (invoke 2 5)))", 106);
        B.unhandled("(restart 2 0 (invoke 2 6) (invoke 2 5))", 5, 6, 1);
        B.unhandled("(seq (restart 2 0 9 1) (invoke 2 5))", 5, 5, 4);
        CHECKS.about("19 INVOKE: a RESTART that was deeper before is no longer in progress");
        B.renew();
        B.define(0, 0, "(restart 2 0 9 1)");
        String deeper = "(add (add (add (add (call 0) (call 0)) (call 0)) (call 0)) ";
        B.value(deeper + "(restart 2 0 (add v0 10) (invoke 2 5)))", 19);
        B.unhandled(deeper + "(invoke 2 5))", 5, 5, 8);
        CHECKS.about("14 THROW: a CATCH that was deeper before is no longer in progress");
        B.define(0, 0, "(catch 2 1)");
        B.value(deeper + "(catch 2 (throw 2 5)))", 9);
        B.unhandled(deeper + "(throw 2 5))", 5, 2, 8);
    }

    private static void invokeWithoutARestart() {
        B.fresh("19 INVOKE: if there is none: error control, datum that value");
        for (int a = 0; a <= 7; a++) {
            B.unhandled("(invoke " + a + " 9)", 5, 9, 0);
            B.unhandled("(restart " + (a + 1) % 8 + " 0 1 (invoke " + a + " 9))", 5, 9, 2);
        }
        B.renew();
        for (int v : new int[] {0, -1, MAX, MIN}) {
            B.value("(case 5 0 v0 (invoke 3 " + v + "))", v);
        }
    }

    private static void printGivesItsValue() {
        B.fresh("22 PRINT: the part's value, which is also appended to the output");
        for (int v : new int[] {0, 1, -1, MAX, MIN}) {
            B.value("(print " + v + ")", v);
            B.printed(v);
        }
        B.value("(print (print (add (print 4) 1)))", 5);
        B.printed(4, 5, 5);
    }

    // ---- CALL ----

    private static void callOfNoDefinition() {
        B.fresh("23 CALL: function a has no definition: error undefined, datum a");
        for (int f = 0; f <= 5; f++) {
            B.renew();
            B.unhandled("(call " + f + ")", 8, f, 0);
            B.unhandled("(seq (call " + f + " 7))", 8, f, 1);
            B.unhandled("(call " + f + " 7 8)", 8, f, 0);
            B.unhandled("(call " + f + " 7 8 9)", 8, f, 0);
            B.beats(0);
            B.define((f + 1) % 6, 0, "1");
            B.unhandled("(call " + f + ")", 8, f, 0);
            B.define(f, 0, "5");
            B.value("(call " + f + ")", 5);
            B.beats(1);
        }
    }

    private static void callWithAnotherNumberOfParts() {
        B.fresh("23 CALL: it has another number of parameters: error arguments, datum the number of parts");
        String[] parts = {"", " 1", " 1 2", " 1 2 3"};
        for (int params = 0; params <= 3; params++) {
            B.renew();
            B.define(4, params, "(add v0 (add v1 v2))");
            int[] sums = {0, 1, 3, 6};
            for (int count = 0; count <= 3; count++) {
                String form = "(seq 9 (call 4" + parts[count] + "))";
                if (count == params) {
                    B.value(form, sums[count]);
                    B.beats(1);
                } else {
                    B.unhandled(form, 9, count, 2);
                    B.beats(0);
                }
            }
        }
    }

    private static void callBeyondTheDepth() {
        B.fresh("23 CALL: as many calls are in progress as the depth allows: error depth, datum that number");
        for (int depth = 1; depth <= 5; depth++) {
            B.renew(depth, 200);
            B.define(3, 1, "(if v0 (call 3 (sub v0 1)) 70)");
            B.value("(call 3 " + (depth - 1) + ")", 70);
            B.beats(depth);
            B.unhandled("(call 3 " + depth + ")", 7, depth, 402);
            B.beats(depth);
            B.unhandled("(call 3 " + (depth + 1) + ")", 7, depth, 402);
            B.value("(case 7 0 (add v0 (call 3 " + (depth - 1) + ")) (call 3 " + depth + "))", depth + 70);
            B.value("(seq (call 3 0) (call 3 0) (call 3 0) (call 3 0) (call 3 0) (call 3 0) (call 3 " + (depth - 1) + "))", 70);
        }
        CHECKS.about("23 CALL: a call is in progress from its beat until its value; its arguments come before it");
        B.renew(1, 200);
        B.define(0, 1, "(add v0 1)");
        B.value("(call 0 (call 0 (call 0 0)))", 3);
    }

    /** At the depth of 1 and with the fuel of 1, a call from function 0 has used up both. */
    private static void callTestsInTheirOrder() {
        B.fresh("23 CALL: the parts are the arguments. Then: no definition", 1, 1);
        B.unhandled("(call 5 (div (print 8) 0))", 3, 8, 1);
        B.printed(8);
        B.unhandled("(call 5 (print 1) (print 2) (print 3))", 8, 5, 0);
        B.printed(1, 2, 3);
        CHECKS.about("23 CALL: no definition comes before depth and beat");
        B.define(0, 0, "(call 5 (print 1))");
        B.unhandled("(call 0)", 8, 5, 100);
        B.printed(1);
        B.beats(1);
        CHECKS.about("23 CALL: the number of parameters comes before depth and beat");
        B.define(5, 2, "7");
        B.unhandled("(call 0)", 9, 1, 100);
        B.printed(1);
        B.beats(1);
        CHECKS.about("23 CALL: the depth comes before the beat");
        B.define(5, 1, "7");
        B.unhandled("(call 0)", 7, 1, 100);
        B.printed(1);
        B.beats(1);
        CHECKS.about("23 CALL: else a beat, and the form is evaluated");
        B.renew(2, 1);
        B.define(0, 0, "(call 5 (print 1))");
        B.define(5, 1, "(print 7)");
        B.outOfFuel("(call 0)");
        B.printed(1);
        B.beats(1);
        B.renew(2, 2);
        B.define(0, 0, "(call 5 (print 1))");
        B.define(5, 1, "(print 7)");
        B.value("(call 0)", 7);
        B.printed(1, 7);
        B.beats(2);
    }

    private static void callHasFreshLocals() {
        B.fresh("23 CALL: fresh locals: 0, 1, .. are the arguments, the others 0");
        String[] parts = {"", " 21", " 21 22", " 21 22 23"};
        int[] given = {21, 22, 23};
        for (int params = 0; params <= 3; params++) {
            B.renew();
            B.define(0, 0, "(seq (set 0 1) (set 1 2) (set 2 3) (set 3 4) (set 4 5) (set 5 6) (set 6 7) (set 7 8))");
            B.define(1, params, "(seq (print v0) (print v1) (print v2) (print v3) (print v4) (print v5) (print v6) (print v7))");
            B.value("(seq (set 0 30) (set 1 31) (set 2 32) (set 3 33) (set 7 37) (call 0) (call 1" + parts[params] + "))", 0);
            int[] due = new int[8];
            for (int i = 0; i < params; i++) {
                due[i] = given[i];
            }
            B.printed(due);
        }
    }

    // ---- arrays ----

    private static void indexIs0To15() {
        B.fresh("24 AREF, 25 INCA: the index; if it is not 0 to 15: error index, datum the index");
        for (int a = 0; a <= 3; a++) {
            for (int index : new int[] {0, 1, 14, 15}) {
                B.renew();
                B.value("(aref " + a + " " + index + ")", 0);
                B.value("(inca " + a + " " + index + " 1)", 0);
                B.value("(aref " + a + " " + index + ")", 1);
                B.cell(a, index, 1);
            }
            for (int index : new int[] {-1, 16, -16, 17, 31, 64, 256, MAX, MIN}) {
                B.renew();
                B.unhandled("(seq (aref " + a + " " + index + "))", 6, index, 1);
                B.unhandled("(seq 0 (inca " + a + " " + index + " 1))", 6, index, 2);
                B.value("(case 6 0 v0 (add 1 (inca " + a + " " + index + " 1)))", index);
                for (int i = 0; i < 64; i++) {
                    B.cell(i / 16, i % 16, 0);
                }
            }
        }
    }

    private static void elementsKeepTheirLowestBits() {
        CHECKS.about("25 INCA: the element keeps the lowest bits (1, 8, 16, 16) of the sum, read as signed for 1 and 2");
        int[][] rows = {
            // array, first amount, element, second amount, element
            {0, 1, 1, 1, 0}, {0, -1, 1, -1, 0}, {0, 2, 0, 3, 1}, {0, MAX, 1, MIN, 1}, {0, MIN, 0, MAX, 1}, {0, 256, 0, 257, 1},
            {1, 127, 127, 1, -128}, {1, -128, -128, -1, 127}, {1, 128, -128, 0, -128}, {1, -129, 127, 0, 127},
            {1, 255, -1, 1, 0}, {1, 256, 0, -256, 0}, {1, 383, 127, 2, -127}, {1, MAX, -1, MAX, -2}, {1, MIN, 0, MIN, 0},
            {2, 32767, 32767, 1, -32768}, {2, -32768, -32768, -1, 32767}, {2, 32768, -32768, 0, -32768},
            {2, -32769, 32767, 0, 32767}, {2, 65535, -1, 1, 0}, {2, 65536, 0, 128, 128}, {2, MAX, -1, MAX, -2},
            {3, 65535, 65535, 1, 0}, {3, -1, 65535, -1, 65534}, {3, 32767, 32767, 1, 32768}, {3, 65536, 0, 65537, 1},
            {3, -65535, 1, -1, 0}, {3, MAX, 65535, MAX, 65534}, {3, MIN, 0, -32768, 32768}};
        for (int[] row : rows) {
            B.renew();
            for (int index : new int[] {0, 15}) {
                String at = "inca " + row[0] + " " + index + " ";
                B.value("(" + at + row[1] + ")", 0);
                B.cell(row[0], index, row[2]);
                B.value("(" + at + row[3] + ")", row[2]);
                B.cell(row[0], index, row[4]);
                B.value("(aref " + row[0] + " " + index + ")", row[4]);
            }
        }
    }

    private static void everyElementIsItsOwn() {
        B.fresh("24 AREF: four arrays of 16 elements each, all 0 at the start");
        for (int i = 0; i < 64; i++) {
            B.cell(i / 16, i % 16, 0);
        }
        for (int i = 0; i < 64; i++) {
            B.renew();
            B.value("(seq (inca " + i / 16 + " " + i % 16 + " 1) (aref " + i / 16 + " " + i % 16 + "))", 1);
            for (int j = 0; j < 64; j++) {
                B.cell(j / 16, j % 16, i == j ? 1 : 0);
            }
        }
    }

    private static void incaGivesTheOldValue() {
        B.fresh("25 INCA: the value is the element's OLD value");
        B.value("(inca 1 4 5)", 0);
        B.value("(inca 1 4 6)", 5);
        B.value("(inca 1 4 (inca 1 4 1))", 12);
        B.cell(1, 4, 23);
        B.value("(inca 0 4 1)", 0);
        B.value("(inca 0 4 1)", 1);
        B.value("(inca 1 4 0)", 23);
        B.unhandled("(inca 1 16 (print 3))", 6, 16, 0);
        B.printed(3);
    }

    // ---- BOUND and references ----

    private static void boundTellsOfACurrentValue() {
        B.fresh("26 BOUND: 1 if it has a current value, else 0");
        for (int v = 8; v <= 11; v++) {
            B.renew();
            B.value("(bound " + v + ")", 0);
            B.value("(bind " + v + " 0 (bound " + v + "))", 1);
            B.value("(bound " + v + ")", 0);
            B.value("(seq (set " + v + " 0) (bound " + v + "))", 1);
            B.value("(bound " + v + ")", 1);
            B.value("(bound " + (v == 11 ? 8 : v + 1) + ")", 0);
        }
    }

    private static void referenceWithoutAValue() {
        B.fresh("A reference to a special variable: its current value, or error unbound, datum a, if it has none");
        for (int v = 8; v <= 11; v++) {
            B.renew();
            B.unhandled("v" + v, 4, v, 0);
            B.unhandled("(add 1 v" + v + ")", 4, v, 2);
            B.value("(case 4 0 v0 (add 1 v" + v + "))", v);
            B.value("(bind " + v + " -6 v" + v + ")", -6);
            B.unhandled("v" + v, 4, v, 0);
            B.value("(seq (set " + v + " 0) v" + v + ")", 0);
            B.value("v" + v, 0);
        }
        for (int v = 0; v <= 7; v++) {
            B.value("v" + v, 0);
        }
    }

    // ---- A BEAT ----

    private static void beatsOfWhile() {
        CHECKS.about("A BEAT: of WHILE, one for each time the first part is evaluated");
        for (int fuel : new int[] {1, 2, 3, 199, 200}) {
            B.renew(5, fuel);
            B.value("(seq (set 0 " + fuel + ") (while (set 0 (sub v0 1))))", 0);
            B.beats(fuel);
            B.outOfFuel("(seq (set 0 " + (fuel + 1) + ") (while (set 8 (set 0 (sub v0 1)))))");
            B.beats(fuel);
            B.special(8, 1);
            B.value("(while 0)", 0);
            B.beats(1);
        }
        B.renew(5, 1);
        B.outOfFuel("(while 1 (print 5))");
        B.printed(5);
    }

    private static void beatsOfCall() {
        CHECKS.about("A BEAT: of CALL, one for each");
        String[] calls = {"", "(call 0 1)", "(call 0 1) (call 0 2)", "(call 0 1) (call 0 2) (call 0 3)",
            "(call 0 1) (call 0 2) (call 0 3) (call 0 4)"};
        for (int fuel = 1; fuel <= 3; fuel++) {
            B.renew(5, fuel);
            B.define(0, 1, "(print v0)");
            B.value("(seq " + calls[fuel] + ")", fuel);
            B.beats(fuel);
            B.outOfFuel("(seq " + calls[fuel + 1] + ")");
            B.beats(fuel);
            B.output(-1, fuel);
        }
    }

    private static void beatsOfHandle() {
        CHECKS.about("A BEAT: of HANDLE, one for each time its clause is evaluated");
        String[] signals = {"", "(signal 2 1)", "(signal 2 1) (signal 2 2)", "(signal 2 1) (signal 2 2) (signal 2 3)",
            "(signal 2 1) (signal 2 2) (signal 2 3) (signal 2 4)"};
        for (int fuel = 1; fuel <= 3; fuel++) {
            B.renew(5, fuel);
            B.value("(handle 1 0 (print v0) (handle 3 0 (print 9) " + signals[fuel] + "))", 0);
            B.beats(fuel);
            B.output(-1, fuel);
            B.outOfFuel("(handle 1 0 (print v0) (handle 3 0 (print 9) " + signals[fuel + 1] + "))");
            B.beats(fuel);
            B.output(-1, fuel);
        }
        B.renew(5, 1);
        B.outOfFuel("(handle 1 0 (print 1) (handle 2 0 (print 2) (error 2 5)))");
        B.printed(2);
        B.outOfFuel("(handle 1 0 (while 1) (signal 2 5))");
        B.beats(1);
    }

    private static void whatNeedsNoBeat() {
        B.fresh("A BEAT: nothing but WHILE, CALL and a HANDLE's clause uses one", 5, 1);
        B.value("(seq (block 0 (return 0 1)) (catch 1 (throw 1 2)) (restart 0 0 1 (invoke 0 3)) (case 2 0 1 (error 2 4)))", 1);
        B.beats(0);
        B.value("(handle 3 0 1 (protect (signal 2 1) (bind 8 1 (print (add v8 (aref 0 0))) (inca 0 1 1) (if 1 (set 0 1) 2))))", 0);
        B.beats(0);
        B.unhandled("(handle 3 0 1 (error 2 5))", 2, 5, 2);
        B.beats(0);
    }

    private static void noFuelEndsAtOnce() {
        B.fresh("A BEAT: if the fuel is used up, the run ends at once (FUEL): no clean-up is evaluated", 5, 1);
        B.define(0, 0, "(print 1)");
        String[] last = {"(while 1)", "(seq (call 0) (call 0))", "(handle 1 0 7 (signal 1 0) (signal 1 0))"};
        for (String form : last) {
            B.outOfFuel("(case 2 0 (print 8) (protect (protect (seq " + form + " (print 6)) (print 7) (set 9 1)) (print 7)))");
            B.output(-1, form.contains("call") ? 1 : 0);
            B.special(9, Bench.NONE);
            B.beats(1);
        }
        CHECKS.about("A BEAT: no fuel in a clean-up, in a clause and while an exit is on its way");
        B.outOfFuel("(protect (protect 5 (while 1) (print 1)) (print 2))");
        B.printed();
        B.outOfFuel("(catch 1 (protect (protect (throw 1 5) (while 1) (print 1)) (print 2)))");
        B.printed();
        B.outOfFuel("(protect (error 2 5) (while 1) (print 1))");
        B.printed();
        B.outOfFuel("(case 2 0 (while 1) (error 2 5))");
        B.outOfFuel("(restart 2 0 (while 1) (invoke 2 5))");
    }

    private static void fuelIsThatOfThisRun() {
        B.fresh("A BEAT: the fuel of this run()", 5, 3);
        B.define(0, 0, "4");
        for (int i = 0; i < 5; i++) {
            B.value("(seq (call 0) (call 0) (call 0))", 4);
            B.beats(3);
            B.outOfFuel("(while 1)");
            B.beats(3);
        }
    }

    // ---- errors of the rules ----

    private static final String[] RAISING = {"(div 13 0)", "v10", "(throw 15 1)", "(invoke 3 19)", "(aref 1 16)", "(inca 1 -7 1)",
        "(call 1)", "(call 5)", "(call 0)"};
    private static final int[] RAISED = {3, 4, 5, 5, 6, 6, 7, 8, 9};
    private static final int[] DATA = {13, 10, 15, 19, 16, -7, 1, 5, 0};

    /** In function 1 at the depth of 1, where also CALL of a sound function raises an error. */
    private static void rulesRaiseLikeError() {
        for (int i = 0; i < RAISING.length; i++) {
            B.fresh("Errors that these rules raise behave like ERROR of that type with that datum: " + RAISING[i], 1, 200);
            B.define(0, 1, "v0");
            B.define(1, 0, "(seq (print " + RAISING[i] + ") (print 99))");
            for (int t = 1; t <= 9; t++) {
                boolean applies = t <= 2 || t == RAISED[i];
                String handled = "(handle " + t + " 0 (print v0) (call 1))";
                B.unhandled(handled, RAISED[i], DATA[i], 202);
                B.output(-1, applies ? 1 : 0);
                B.output(0, applies ? DATA[i] : 0);
                if (applies) {
                    B.value("(case " + t + " 0 (add v0 1) (call 1))", DATA[i] + 1);
                } else {
                    B.unhandled("(case " + t + " 0 (add v0 1) (call 1))", RAISED[i], DATA[i], 202);
                }
                B.output(-1, 0);
            }
        }
    }

    private static void nodesOfErrors() {
        for (int i = 0; i < RAISING.length; i++) {
            B.fresh("Errors of the rules: their node is the list (or reference) that is described: " + RAISING[i], 1, 200);
            B.define(0, 1, "v0");
            B.define(1, 0, "(seq 1 (seq 2 3) " + RAISING[i] + ")");
            B.unhandled("(seq 1 (call 1))", RAISED[i], DATA[i], 205);
            if (RAISED[i] != 7) {
                B.unhandled("(seq 1 (seq 2 3) (seq " + RAISING[i] + "))", RAISED[i], DATA[i], 6);
                B.unhandled(RAISING[i], RAISED[i], DATA[i], 0);
            }
        }
    }
}
