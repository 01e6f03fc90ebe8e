/** The sentences of SIGNALLING and EXITS that name a boundary case: a test for each. */
public final class SignalBoundsTest {
    private static final Checks CHECKS = new Checks();
    private static final Bench B = new Bench(CHECKS);
    /** The five exits: what stands around a part that is left, and the part that leaves it with 5. */
    private static final String[] HEADS = {"(block 0 ", "(catch 1 ", "(restart 0 7 v7 ", "(case 2 7 v7 ", "(seq "};
    private static final String[] LEAVES = {"(return 0 5)", "(throw 1 5)", "(invoke 0 5)", "(error 2 5)", "(error 2 5)"};
    private static final int UNHANDLED = 4;

    private SignalBoundsTest() {
    }

    public static void main(String[] args) {
        innermostClauseFirst();
        handleUsesABeatFirst();
        clauseInTheMiddle();
        callsAroundAClauseAreInProgress();
        localVariableIsThatOfTheHandle();
        specialVariableIsBound();
        clauseHasTheLocalsOfItsCall();
        clauseHasTheSpecialsOfTheMoment();
        allTargetsStayUsable();
        clauseIsNotInForceInItself();
        innerClausesAreNotInForce();
        clausesBegunInTheClauseAreInForce();
        clausesAroundTheHandleAreInForce();
        clauseInAClause();
        clauseNotInForceAroundItsBody();
        searchGoesOnOutwards();
        noClauseLeft();
        exitsLeaveTheInnermostFirst();
        exitsEndBindings();
        exitsGiveUpCalls();
        exitsGiveUpClauses();
        cleanUpAfterAFirstPartThatIsDone();
        cleanUpOnlyOfAFirstPart();
        furtherOutIsInProgressInACleanUp();
        furtherOutIsInForceInACleanUp();
        furtherInIsNotInACleanUp();
        theExitGoesOn();
        anotherExitTakesThePlace();
        blockAndCatchHaveTheValue();
        caseAndRestartAreOverInTheirClause();
        clauseVariableAtTheTarget();
        unhandledEndsTheRun();
        allBindingsEndWithTheRun();
        globalsAndArraysKeepWhatWasDone();
        deepestBindings();
        deepestCleanUps();
        deepestClauses();
        CHECKS.end("SignalBoundsTest");
    }

    private static String exit(int kind, String before, String after) {
        return HEADS[kind] + before + LEAVES[kind] + after + ")";
    }

    /** Runs a form with one of the exits in it; all end with the 5 that they carry. */
    private static void leaves(int kind, String form, int place) {
        if (kind == UNHANDLED) {
            B.unhandled(form, 2, 5, place);
        } else {
            B.value(form, 5);
        }
    }

    // ---- SIGNALLING ----

    private static void innermostClauseFirst() {
        B.fresh("SIGNALLING: the clauses in force are tried, the innermost first");
        B.value("(handle 1 0 (print 1) (handle 1 0 (print 2) (handle 1 0 (print 3) (signal 1 0))))", 0);
        B.printed(3, 2, 1);
        B.value("(case 1 0 1 (case 1 0 2 (case 1 0 3 (signal 1 0))))", 3);
        B.value("(case 1 0 1 (handle 1 0 (print 2) (case 1 0 3 (signal 1 0))))", 3);
        B.printed();
        B.value("(case 1 0 1 (handle 1 0 (print 2) (case 3 0 3 (signal 2 0))))", 1);
        B.printed(2);
        B.value("(handle 1 0 (print 1) (case 1 0 2 (handle 1 0 (print 3) (signal 1 0))))", 2);
        B.printed(3);
    }

    private static void handleUsesABeatFirst() {
        B.fresh("HANDLE: a beat; then the clause", 5, 1);
        B.value("(handle 1 0 (print v0) (signal 1 4))", 0);
        B.beats(1);
        B.outOfFuel("(handle 1 0 (print v0) (signal 1 4) (signal 1 5))");
        B.printed(4);
        B.outOfFuel("(seq (set 9 1) (handle 1 9 (set 9 3) (set 0 (signal 1 4)) (set 9 2) (signal 1 5)))");
        B.special(9, 2);
    }

    private static void clauseInTheMiddle() {
        B.fresh("HANDLE: the clause is evaluated right there, nothing being left");
        B.value("(handle 1 0 (print 2) (seq (print 1) (add (signal 1 5) (print 3)) (print 4)))", 4);
        B.printed(1, 2, 3, 4);
        B.value("(handle 1 0 (print 2) (protect (seq (print 1) (signal 1 5) (print 3)) (print 4)))", 3);
        B.printed(1, 2, 3, 4);
        B.define(0, 0, "(add 70 (signal 1 5))");
        B.value("(handle 1 0 (print 2) (bind 8 6 (set 1 (call 0)) (add v1 v8)))", 76);
    }

    /** Function 0 signals inside of so many more calls; function 1 calls itself so many times more. */
    private static void callsAroundAClauseAreInProgress() {
        B.fresh("HANDLE: nothing being left, the calls around the clause count for the depth; CALL: as many calls are in progress");
        for (int depth = 1; depth <= 5; depth++) {
            for (int around = 1; around <= depth; around++) {
                B.renew(depth, 200);
                B.define(0, 1, "(if v0 (call 0 (sub v0 1)) (signal 1 8))");
                B.define(1, 1, "(if v0 (call 1 (sub v0 1)) 70)");
                String clause = "(handle 1 0 (print (call 1 %)) (call 0 " + (around - 1) + "))";
                int free = depth - around;
                if (free > 0) {
                    B.value(clause.replace("%", "" + (free - 1)), 0);
                    B.printed(70);
                    B.beats(depth + 1);
                }
                B.unhandled(clause.replace("%", "" + free), 7, depth, free > 0 ? 202 : 2);
                B.printed();
                B.beats(depth + 1);
                B.value("(add (handle 1 0 0 (call 0 " + (around - 1) + ")) (call 1 " + (depth - 1) + "))", 70);
            }
        }
    }

    private static void localVariableIsThatOfTheHandle() {
        B.fresh("HANDLE: b local: that of the call (or run) in which the HANDLE stands is set to the datum");
        for (int b = 0; b <= 7; b++) {
            B.renew();
            B.define(0, 0, "(seq (set " + b + " 3) (signal 1 44) v" + b + ")");
            B.value("(handle 1 " + b + " 0 (set 8 (call 0)) v" + b + ")", 44);
            B.special(8, 3);
            B.define(1, 0, "(seq (set " + b + " 6) (handle 1 " + b + " 0 (call 0)) v" + b + ")");
            B.value("(seq (set " + b + " 7) (set 8 (call 1)) v" + b + ")", 7);
            B.special(8, 44);
        }
    }

    private static void specialVariableIsBound() {
        B.fresh("HANDLE: b special: b is bound to the datum while the clause is evaluated");
        for (int b = 8; b <= 11; b++) {
            B.renew();
            B.define(0, 0, "(print v" + b + ")");
            B.value("(handle 1 " + b + " (seq (call 0) (set " + b + " 6) (call 0)) (signal 1 44) (print (bound " + b + ")))", 0);
            B.printed(44, 6, 0);
            B.special(b, Bench.NONE);
            B.value("(seq (set " + b + " 1) (handle 1 " + b + " (call 0) (bind " + b + " 2 (signal 1 44) (call 0)) (call 0)))", 1);
            B.printed(44, 2, 1);
            B.value("(seq (catch 1 (handle 1 " + b + " (throw 1 0) (signal 1 44))) (call 0))", 1);
            B.value("(handle 1 " + b + " (call 0) (handle 1 " + b + " (call 0) (signal 1 44) (call 0)))", 1);
            B.printed(44, 44, 1);
        }
    }

    private static void clauseHasTheLocalsOfItsCall() {
        B.fresh("HANDLE: locals in the clause are those of the call in which the HANDLE stands");
        B.define(0, 1, "(seq (set 1 50) (signal 1 v0) v1)");
        B.value("(seq (set 1 2) (handle 1 0 (set 1 (add v1 1)) (set 8 (call 0 9)) (add (mul 100 v0) v1)))", 903);
        B.special(8, 50);
        B.define(1, 1, "(seq (set 1 20) (handle 1 2 (set 1 (add v1 v2)) (call 0 4)) v1)");
        B.value("(seq (set 1 7) (add (mul 10 (call 1 0)) v1))", 247);
        B.define(2, 1, "(handle 1 1 (print v0) (if v0 (call 2 (sub v0 1)) (signal 1 9)))");
        B.value("(call 2 3)", 0);
        B.printed(0, 1, 2, 3);
    }

    private static void clauseHasTheSpecialsOfTheMoment() {
        B.fresh("HANDLE: special variables have the values of this moment");
        B.value("(seq (set 8 1) (handle 1 0 (print v8) (signal 1 0) (set 8 2) (signal 1 0) (bind 8 3 (signal 1 0))))", 0);
        B.printed(1, 2, 3);
        B.value("(bind 8 4 (handle 1 0 (set 8 9) (bind 8 3 (signal 1 0) (print v8)) (print v8)))", 4);
        B.printed(9, 4);
    }

    private static void allTargetsStayUsable() {
        B.fresh("HANDLE: all CATCH, BLOCK and RESTART in progress stay usable");
        B.value("(add 1 (catch 1 (handle 1 0 (throw 1 5) (add 10 (signal 1 0)))))", 6);
        B.value("(handle 1 0 (throw 1 5) (add 10 (catch 1 (signal 1 0) 99)))", 15);
        B.value("(catch 1 (handle 1 0 (throw 1 5) (add 10 (catch 1 (signal 1 0) 99))))", 15);
        B.value("(add 1 (block 1 (handle 1 0 (return 1 5) (add 10 (signal 1 0)))))", 6);
        B.value("(restart 1 0 v0 (handle 1 0 (invoke 1 5) (add 10 (signal 1 0))))", 5);
        B.value("(handle 1 0 (invoke 1 5) (add 10 (restart 1 0 v0 (signal 1 0) 99)))", 15);
        B.define(0, 0, "(add 10 (restart 1 0 (add v0 1) (error 2 3)))");
        B.value("(handle 2 0 (invoke 1 (mul v0 2)) (call 0))", 17);
        B.define(1, 0, "(add 10 (catch 4 (error 2 3)))");
        B.value("(handle 2 0 (throw 4 (mul v0 2)) (call 1))", 16);
    }

    private static void clauseIsNotInForceInItself() {
        B.fresh("HANDLE: in its clause it is not in force itself");
        B.value("(handle 1 0 (seq (print v0) (signal 1 (add v0 1))) (signal 1 5))", 0);
        B.printed(5);
        B.unhandled("(handle 1 0 (error 2 6) (signal 1 5))", 2, 6, 1);
        B.unhandled("(handle 1 0 (div v0 0) (signal 1 5))", 3, 5, 1);
        B.define(0, 0, "(error 2 7)");
        B.unhandled("(handle 1 0 (call 0) (signal 1 5))", 2, 7, 100);
        B.value("(handle 1 0 (print v0) (signal 1 5) (signal 1 6))", 0);
        B.printed(5, 6);
    }

    private static void innerClausesAreNotInForce() {
        B.fresh("HANDLE: in its clause those begun in its BODY are not in force");
        B.value("(handle 2 0 (signal 3 6) (handle 3 0 (print 3) (case 3 0 4 (add 50 (signal 2 5)))))", 50);
        B.printed();
        B.unhandled("(handle 2 0 (error 3 6) (case 3 0 4 (signal 2 5)))", 3, 6, 1);
        B.value("(case 3 0 7 (handle 2 0 (error 3 6) (case 3 0 4 (signal 2 5))))", 7);
        B.define(0, 0, "(case 3 0 4 (signal 2 5))");
        B.value("(case 3 0 7 (handle 2 0 (error 3 6) (call 0)))", 7);
    }

    private static void clausesBegunInTheClauseAreInForce() {
        B.fresh("HANDLE: in its clause those begun since the clause began and still in progress are in force");
        B.value("(handle 2 0 (print (case 1 1 (add v1 1) (error 2 6))) (signal 2 5))", 0);
        B.printed(7);
        B.value("(handle 2 0 (handle 1 1 (print v1) (signal 2 6)) (signal 2 5))", 0);
        B.printed(6);
        B.value("(handle 2 0 (seq (handle 1 1 (print 9) 1) (signal 2 6)) (signal 2 5))", 0);
        B.printed();
        B.unhandled("(handle 2 0 (seq (case 1 1 (print 9) 1) (error 2 6)) (signal 2 5))", 2, 6, 6);
        B.value("(handle 1 0 (print v0) (handle 2 0 (handle 1 1 (print (add v1 10)) (signal 2 6)) (signal 2 5)))", 0);
        B.printed(16, 6, 5);
    }

    private static void clausesAroundTheHandleAreInForce() {
        B.fresh("HANDLE: in its clause, outside of them, those that were in force around this HANDLE");
        B.value("(handle 1 0 (print v0) (handle 2 1 (signal 2 6) (signal 2 5)))", 0);
        B.printed(6, 5);
        B.value("(case 1 0 (add v0 1) (handle 2 1 (error 2 6) (signal 2 5)))", 7);
        B.value("(seq (handle 1 0 (print 9) 1) (handle 2 1 (signal 2 6) (signal 2 5)))", 0);
        B.printed();
        B.define(0, 0, "(handle 2 1 (signal 2 6) (signal 2 5))");
        B.value("(handle 1 0 (print v0) (call 0))", 0);
        B.printed(6, 5);
    }

    private static void clauseInAClause() {
        B.fresh("HANDLE: a clause that is evaluated in the middle of a clause");
        B.value("(handle 1 0 (print (add v0 100)) (handle 1 0 (seq (print (add v0 200)) (signal 1 2))"
            + " (handle 1 0 (seq (print (add v0 300)) (signal 1 1)) (signal 1 0))))", 0);
        B.printed(300, 201, 102, 101, 200, 102, 100);
        B.beats(7);
        CHECKS.about("HANDLE: one that stands in a clause has those of the clause around it");
        B.value("(handle 1 0 (print 1) (handle 1 0 (handle 1 0 (signal 1 7) (signal 1 6)) (handle 1 0 (print 3) (signal 1 5))))", 0);
        B.printed(3, 1, 1, 1);
    }

    private static void clauseNotInForceAroundItsBody() {
        B.fresh("HANDLE, CASE: the clause is in force while the BODY is evaluated, not before and not after it");
        B.value("(seq (signal 1 1) (handle 1 0 (print v0) (signal 1 2)) (signal 1 3))", 0);
        B.printed(2);
        B.unhandled("(seq (case 1 0 (print v0) 1) (error 2 3))", 2, 3, 5);
        CHECKS.about("HANDLE, CASE: a CALL with three parts, whatever they are, leaves in force what was");
        B.define(0, 3, "v2");
        for (int third : new int[] {0, 1, 2, -1, 30}) {
            B.value("(handle 1 0 (print v0) (call 0 7 8 " + third + ") (signal 1 6))", 0);
            B.printed(6);
            B.unhandled("(seq (call 0 7 8 " + third + ") (error 2 6))", 2, 6, 5);
        }
        B.renew();
        CHECKS.about("HANDLE, CASE: the clause is not in force after a BODY that is left");
        B.value("(seq (block 0 (handle 1 0 (print 1) (return 0 1))) (signal 1 3))", 0);
        B.printed();
        B.value("(seq (catch 1 (handle 1 0 (throw 1 0) (signal 1 1))) (handle 1 0 (print 2) (signal 1 4)) (signal 1 3))", 0);
        B.printed(2);
    }

    private static void searchGoesOnOutwards() {
        B.fresh("HANDLE: the clause's value is dropped, and the search goes on with the next clause outwards from this one");
        B.value("(add 3 (handle 1 0 77 (signal 1 5)))", 3);
        B.unhandled("(handle 1 0 77 (error 2 5))", 2, 5, 2);
        B.value("(handle 1 0 (print 1) (handle 3 0 (print 2) (handle 1 0 (print 3) (signal 2 5))))", 0);
        B.printed(3, 1);
        B.value("(case 1 0 (add v0 1) (handle 1 0 (print v0) (error 2 5)))", 6);
        B.printed(5);
        CHECKS.about("HANDLE: the next clause has the same datum, whatever the clause did");
        B.value("(handle 1 0 (print v0) (handle 1 0 (set 0 9) (signal 1 5)))", 0);
        B.printed(5);
        B.value("(handle 1 0 (print v0) (handle 1 0 (signal 1 9) (signal 1 5)))", 0);
        B.printed(9, 5);
        B.value("(case 3 0 (add v0 1) (handle 1 1 (case 4 0 1 (error 4 9)) (error 3 5)))", 6);
    }

    private static void noClauseLeft() {
        B.fresh("SIGNALLING: when no clause is left, SIGNAL has the value 0; ERROR ends the whole run: UNHANDLED");
        for (int t = 1; t <= 9; t++) {
            B.value("(add 8 (signal " + t + " 5))", 8);
            B.unhandled("(add 8 (error " + t + " 5))", t, 5, 2);
        }
        B.renew();
        B.value("(handle 3 0 (print 1) (case 4 0 9 (add 8 (signal 2 5))))", 8);
        B.unhandled("(handle 3 0 (print 1) (case 4 0 9 (add 8 (error 2 5))))", 2, 5, 7);
        B.printed();
        for (int more = 10; more <= 15; more++) {
            CHECKS.same("type(1)", B.type(1), more);
            B.value("(signal " + more + " 5)", 0);
            B.unhandled("(error " + more + " 5)", more, 5, 0);
        }
    }

    // ---- EXITS ----

    private static void exitsLeaveTheInnermostFirst() {
        for (int kind = 0; kind <= UNHANDLED; kind++) {
            B.fresh("EXITS: leave everything begun inside the target's BODY, the innermost first: " + LEAVES[kind]);
            leaves(kind, exit(kind, "(protect (protect (add (print 4) ", ") (print 1)) (print 2) (print 3)) (print 9)"),
                kind == UNHANDLED ? 6 : 0);
            B.printed(4, 1, 2, 3);
        }
        B.fresh("EXITS: and nothing outside the target");
        B.value("(protect (catch 1 (protect (throw 1 5) (print 1))) (print 2))", 5);
        B.printed(1, 2);
        B.value("(seq (protect (catch 1 (throw 1 5)) (print 2)) (print 3))", 3);
        B.printed(2, 3);
    }

    private static void exitsEndBindings() {
        for (int kind = 0; kind <= UNHANDLED; kind++) {
            B.fresh("EXITS: bindings end: " + LEAVES[kind]);
            B.value("(set 8 1)", 1);
            leaves(kind, exit(kind, "(bind 8 2 (protect (bind 8 3 (bind 9 4 ", ")) (print v8) (print (bound 9))))"), 8);
            B.printed(2, 0);
            B.special(8, 1);
            B.special(9, Bench.NONE);
            leaves(kind, exit(kind, "(bind 8 2 (set 8 6) ", ")"), 5);
            B.special(8, 1);
        }
    }

    private static void exitsGiveUpCalls() {
        B.fresh("EXITS: calls are given up", 1, 200);
        B.define(0, 0, "(throw 1 5)");
        B.define(1, 0, "(print 7)");
        B.value("(catch 1 (protect (call 0) (call 1)))", 5);
        B.printed(7);
        B.value("(seq (catch 1 (call 0)) (call 1))", 7);
        B.define(0, 0, "(error 2 5)");
        B.unhandled("(protect (call 0) (call 1))", 2, 5, 100);
        B.printed(7);
        B.value("(case 2 0 (call 1) (call 0))", 7);
        B.define(0, 0, "(invoke 4 5)");
        B.value("(restart 4 0 (call 1) (call 0))", 7);
        CHECKS.about("EXITS: a call further out is still in progress");
        B.define(2, 0, "(protect (throw 1 5) (print (case 7 0 v0 (call 1))))");
        B.value("(catch 1 (call 2))", 5);
        B.printed(1);
    }

    private static void exitsGiveUpClauses() {
        B.fresh("EXITS: clauses are given up");
        B.value("(catch 1 (handle 1 8 (throw 1 (add v8 1)) (protect (signal 1 4) (print (bound 8)))))", 5);
        B.printed(0);
        B.value("(seq (catch 1 (handle 1 0 (throw 1 5) (signal 1 4) (print 9))) (print 3))", 3);
        B.printed(3);
        B.value("(block 1 (handle 1 0 (protect (return 1 v0) (print 1)) (protect (signal 1 4) (print 2))))", 4);
        B.printed(1, 2);
        CHECKS.about("EXITS: the search that a clause belonged to is given up with it");
        B.value("(handle 1 0 (print 9) (catch 1 (handle 1 0 (throw 1 5) (signal 1 4))))", 5);
        B.printed();
    }

    private static void cleanUpAfterAFirstPartThatIsDone() {
        B.fresh("15 PROTECT: the first part's value is the value; the clean-up is evaluated after it");
        B.value("(protect (print 5) (print 6) (print 7))", 5);
        B.printed(5, 6, 7);
        B.value("(protect 5)", 5);
        B.value("(seq (set 0 4) (protect v0 (set 0 6)))", 4);
        B.value("(protect (seq) 7)", 0);
    }

    private static void cleanUpOnlyOfAFirstPart() {
        for (int kind = 0; kind <= UNHANDLED; kind++) {
            B.fresh("EXITS: for a PROTECT whose first part is left; one whose clean-up is left has no other: " + LEAVES[kind]);
            leaves(kind, exit(kind, "(protect (print 1) (print 2) ", " (print 3))"), 6);
            B.printed(1, 2);
            leaves(kind, exit(kind, "(protect 1 (protect ", " (print 2) (print 3)) (print 4))"), 4);
            B.printed(2, 3);
            leaves(kind, exit(kind, "(protect (print 1) (print 2)) ", ""), 6);
            B.printed(1, 2);
            leaves(kind, exit(kind, "(protect ", ")"), 2);
        }
    }

    private static void furtherOutIsInProgressInACleanUp() {
        B.fresh("EXITS: in a clean-up all that is further out is still in progress");
        B.value("(catch 3 (catch 1 (protect (throw 1 5) (throw 3 6))) 9)", 6);
        B.value("(catch 1 (protect (throw 1 5) (throw 1 6)) 9)", 6);
        B.value("(catch 3 (add 1 (catch 1 (add 10 (catch 3 (protect (throw 1 5) (throw 3 6)))))))", 17);
        B.value("(restart 3 0 (add v0 1) (restart 3 0 (add v0 2) (protect (invoke 3 5) (invoke 3 6))))", 8);
        B.value("(restart 3 0 (add v0 1) (catch 1 (protect (throw 1 5) (invoke 3 6))) 9)", 7);
        B.value("(block 3 (block 3 (protect (return 3 5) (return 3 6))) 9)", 9);
        B.value("(add 1 (block 3 (block 2 (protect (return 2 5) (return 3 6))) 9))", 7);
        B.value("(bind 8 4 (catch 1 (bind 8 3 (protect (throw 1 5) (print v8) (set 8 2) (print v8)))) v8)", 4);
        B.printed(3, 2);
        B.value("(catch 3 (protect (error 2 5) (throw 3 6)) 9)", 6);
    }

    private static void furtherOutIsInForceInACleanUp() {
        B.fresh("EXITS: in a clean-up all that is further out is still in force");
        B.value("(handle 1 0 (print v0) (catch 1 (protect (throw 1 5) (signal 1 6))))", 5);
        B.printed(6);
        B.value("(catch 1 (handle 1 0 (print v0) (protect (throw 1 5) (signal 1 6))))", 5);
        B.printed(6);
        B.value("(case 2 0 (add v0 1) (protect (error 2 5) (error 2 6)))", 7);
        B.value("(case 2 0 (add v0 1) (catch 1 (protect (throw 1 5) (error 2 6))) 9)", 7);
        B.value("(case 1 0 (add v0 1) (case 2 0 (add v0 2) (protect (error 2 5) (signal 1 6))))", 7);
        CHECKS.about("EXITS: also a HANDLE whose clause has been given up");
        B.value("(catch 1 (handle 2 0 (seq (print v0) (throw 1 v0)) (protect (error 2 4) (print 9) (signal 2 5) (print 8))))", 5);
        B.printed(4, 9, 5);
        B.unhandled("(handle 2 0 (print v0) (protect (error 2 4) (signal 3 5)))", 2, 4, 4);
        B.printed(4, 5);
    }

    private static void furtherInIsNotInACleanUp() {
        B.fresh("EXITS: in a clean-up what was left is no longer in progress or in force");
        B.value("(catch 1 (protect (catch 2 (throw 1 5)) (print (case 5 0 (add v0 40) (throw 2 6)))))", 5);
        B.printed(42);
        B.value("(catch 1 (protect (restart 2 0 9 (throw 1 5)) (print (case 5 0 (add v0 40) (invoke 2 6)))))", 5);
        B.printed(46);
        B.value("(catch 1 (protect (handle 1 0 (print 9) (throw 1 5)) (signal 1 6)))", 5);
        B.printed();
        B.value("(case 1 0 (add v0 1) (catch 1 (protect (case 1 0 9 (throw 1 5)) (error 2 6))))", 7);
        B.value("(handle 1 0 (print v0) (catch 1 (protect (handle 2 0 (throw 1 5) (error 2 4)) (signal 2 6))))", 5);
        B.printed(6);
    }

    private static void theExitGoesOn() {
        for (int kind = 0; kind <= UNHANDLED; kind++) {
            B.fresh("EXITS: then the exit goes on, also when its clean-up made and ended exits: " + LEAVES[kind]);
            leaves(kind, exit(kind, "(protect ", " (print (catch 1 (throw 1 6))) (print (block 0 (return 0 7)))) (print 9)"), 2);
            B.printed(6, 7);
            leaves(kind, exit(kind, "(protect ", " (print (case 2 0 v0 (error 3 6))) (print (restart 0 0 v0 (invoke 0 7))))"), 2);
            B.printed(6, 7);
            leaves(kind, exit(kind, "(protect ", " (print (catch 1 (protect (error 3 6) (throw 1 8)))))"), 2);
            B.printed(8);
            leaves(kind, exit(kind, "(protect ", " (print (catch 2 (protect (throw 2 8) (print 3)))))"), 2);
            B.printed(3, 8);
        }
    }

    private static void anotherExitTakesThePlace() {
        int[] places = {5, 7, 6, 6, 5};
        for (int kind = 0; kind <= UNHANDLED; kind++) {
            B.fresh("EXITS: an exit out of the clean-up takes the place of the first for good: " + LEAVES[kind]);
            B.value("(add 1 (catch 3 " + exit(kind, "(protect ", " (throw 3 6) (print 9)) (print 9)") + "))", 7);
            B.printed();
            B.value(exit(kind, "(catch 3 (protect ", " (throw 3 6) (print 9))) (print 8)"), 8);
            B.printed(8);
            B.value("(catch 4 " + exit(kind, "(catch 3 (protect (protect ", " (throw 3 6)) (throw 4 7)))") + ")", 7);
            B.unhandled("(seq " + exit(kind, "(protect ", " (error 1 6))") + ")", 1, 6, places[kind]);
            B.value("(add 1 (catch 3 (protect " + exit(kind, "(protect ", " (throw 3 6))") + " (print 2))))", 7);
            B.printed(2);
        }
    }

    private static void blockAndCatchHaveTheValue() {
        B.fresh("EXITS: at the target a BLOCK or CATCH has the value");
        for (int v : new int[] {0, -1, Integer.MAX_VALUE, Integer.MIN_VALUE}) {
            B.renew();
            B.value("(block 0 (return 0 " + v + ") 3)", v);
            B.value("(catch 1 (throw 1 " + v + ") 3)", v);
            B.value("(restart 1 0 v0 (invoke 1 " + v + ") 3)", v);
            B.value("(case 1 0 v0 (error 2 " + v + ") 3)", v);
            B.unhandled("(error 2 " + v + ")", 2, v, 0);
        }
    }

    private static void caseAndRestartAreOverInTheirClause() {
        B.fresh("EXITS: a CASE or RESTART is no longer in progress; its clause's value is its value");
        B.unhandled("(case 2 0 (error 2 (add v0 1)) (error 2 5))", 2, 6, 1);
        B.value("(case 2 0 (add v0 1) (case 2 0 (error 2 (add v0 10)) (error 2 5)))", 16);
        B.unhandled("(restart 3 0 (invoke 3 (add v0 1)) (invoke 3 5))", 5, 6, 1);
        B.value("(restart 3 0 (add v0 1) (restart 3 0 (invoke 3 (add v0 10)) (invoke 3 5)))", 16);
        B.value("(case 1 0 (add v0 1) (restart 3 0 (error 2 v0) (case 1 0 77 (invoke 3 5))))", 6);
        B.value("(handle 1 0 (print v0) (case 2 0 (seq (signal 2 8) 3) (handle 2 0 (print 9) (case 2 0 (error 2 7) (error 3 5)))))", 3);
        B.printed(9, 8);
    }

    private static void clauseVariableAtTheTarget() {
        for (int b = 0; b <= 11; b++) {
            B.fresh("EXITS: its clause is evaluated, with b set or bound (as for HANDLE): variable " + b);
            String set = "(seq (set " + b + " 3) ";
            B.value(set + "(print (case 2 " + b + " (add v" + b + " 1) (error 2 5))) v" + b + ")", b < 8 ? 5 : 3);
            B.printed(6);
            B.value(set + "(print (restart 2 " + b + " (add v" + b + " 1) (invoke 2 5))) v" + b + ")", b < 8 ? 5 : 3);
            B.printed(6);
            B.value(set + "(case 2 " + b + " (set " + b + " 9) (error 2 5)) v" + b + ")", b < 8 ? 9 : 3);
            B.value(set + "(restart 2 " + b + " (set " + b + " 9) (invoke 2 5)) v" + b + ")", b < 8 ? 9 : 3);
            B.define(0, 0, set + "(error 2 5))");
            B.value("(case 2 " + b + " v" + b + " (call 0))", 5);
            B.special(b, b < 8 ? Bench.NONE : 3);
        }
    }

    private static void unhandledEndsTheRun() {
        B.fresh("EXITS: UNHANDLED: the run is over, after the clean-ups");
        B.unhandled("(seq (protect (error 2 5) (print 1)) (print 2))", 2, 5, 2);
        B.printed(1);
        B.unhandled("(catch 1 (block 0 (restart 0 0 (print 3) (error 2 5))) (print 2))", 2, 5, 6);
        B.printed();
        B.define(0, 0, "(seq (protect (div 8 0) (print 1)) (print 2))");
        B.unhandled("(seq (protect (call 0) (print 3)) (print 4))", 3, 8, 102);
        B.printed(1, 3);
    }

    private static void allBindingsEndWithTheRun() {
        B.fresh("When a run ends, however it does, all bindings end", 5, 3);
        B.value("(seq (set 8 1) (set 9 2))", 2);
        String[] ends = {"4", "(error 2 4)", "(while 1)"};
        for (int i = 0; i < 3; i++) {
            String form = "(bind 8 5 (bind 9 6 (bind 10 7 (bind 8 8 (handle 1 11 " + ends[i] + " (signal 1 9) " + ends[i] + ")))))";
            if (i == 0) {
                B.value(form, 4);
            } else if (i == 1) {
                B.unhandled(form, 2, 4, 9);
            } else {
                B.outOfFuel(form);
            }
            B.special(8, 1);
            B.special(9, 2);
            B.special(10, Bench.NONE);
            B.special(11, Bench.NONE);
            B.value("(add v8 (add (bound 10) (bound 11)))", 1);
        }
    }

    // ---- as deep as 12 open lists and 5 calls let a run go ----

    /** So many times the text, each inside the one before, where its % stands. */
    private static String nested(int times, String text, String innermost) {
        String form = innermost;
        for (int i = 0; i < times; i++) {
            form = text.replace("%", form);
        }
        return form;
    }

    private static void deepestBindings() {
        B.fresh("12 lists open and 5 calls in progress: bindings, with a function that calls itself until error depth");
        B.define(0, 0, nested(11, "(bind 8 (add v8 1) %)", "(call 0)"));
        B.unhandled("(seq (set 8 0) (handle 7 0 (print v8) (call 0)))", 7, 5, 144);
        B.printed(55);
        B.special(8, 0);
        B.value("(catch 1 (handle 7 0 (throw 1 v8) (call 0)))", 55);
        B.value("(case 7 0 (add v0 v8) (call 0))", 5);
        B.special(8, 0);
    }

    private static void deepestCleanUps() {
        B.fresh("12 lists open and 5 calls in progress: clean-ups");
        B.define(0, 0, nested(11, "(protect % (inca 3 0 1))", "(call 0)"));
        B.unhandled(nested(11, "(protect % (inca 3 1 1))", "(call 0)"), 7, 5, 111);
        B.cell(3, 0, 55);
        B.cell(3, 1, 11);
        B.value("(catch 1 (handle 7 0 (throw 1 v0) (call 0)))", 5);
        B.cell(3, 0, 110);
    }

    /** Each clause is evaluated in the middle of the one before it, up to the outermost, which throws. */
    private static void deepestClauses() {
        B.fresh("12 lists open and 5 calls in progress: clauses in the middle of clauses");
        String inner = nested(8, "(handle 1 0 (signal 1 v0) %)", "(call 0)");
        String form = "(handle 1 0 " + nested(10, "(seq %)", "(signal 1 v0)")
            + " (handle 1 0 " + nested(9, "(seq %)", "(signal 1 v0)")
            + " (handle 1 0 " + nested(3, "(seq %)", "(signal 1 v0)") + " " + inner + ")))";
        B.define(0, 0, form);
        String run = "(catch 1 (handle 1 0 (throw 1 (add v0 1)) " + nested(9, "(handle 1 0 (signal 1 v0) %)", "(call 0)") + "))";
        B.value(run, 6);
        B.beats(5 + 5 * 11 + 10);
        B.value(run, 6);
        B.outOfFuel("(handle 1 0 7 (call 0))");
        B.beats(200);
        B.value("(signal 1 5)", 0);
    }

    private static void globalsAndArraysKeepWhatWasDone() {
        String[] ends = {"4", "(error 2 4)", "(while 1)", "(bind 10 1 (error 2 4))"};
        for (int i = 0; i < ends.length; i++) {
            B.fresh("Global values and arrays keep what was done to them: " + ends[i], 5, 3);
            String form = "(seq (set 8 5) (bind 9 1 (set 10 6) (inca 1 2 7) (inca 3 15 8) (set 9 2) " + ends[i] + "))";
            if (i == 0) {
                B.value(form, 4);
            } else if (i == 2) {
                B.outOfFuel(form);
            } else {
                B.unhandled(form, 2, 4, i == 1 ? 15 : 17);
            }
            B.special(8, 5);
            B.special(9, Bench.NONE);
            B.special(10, 6);
            B.cell(1, 2, 7);
            B.cell(3, 15, 8);
            B.value("(add v8 (aref 1 2))", 12);
        }
    }
}
