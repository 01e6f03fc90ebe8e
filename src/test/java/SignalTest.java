/** SIGNALLING and EXITS: HANDLE, CASE, RESTART, CATCH, PROTECT, and promise 18 on RETURN. */
public final class SignalTest {
    private static final long NONE = 4294967296L;
    private static final Checks CHECKS = new Checks();
    private static ConditionLisp x;

    private SignalTest() {
    }

    public static void main(String[] args) {
        catching();
        handling();
        clauseVariables();
        clausesInForce();
        cases();
        restarts();
        protecting();
        cleanUpContext();
        replacedExits();
        returning();
        depthInClauses();
        rulesAsErrors();
        CHECKS.end("SignalTest");
    }

    private static void fresh(String about) {
        CHECKS.about(about);
        x = new ConditionLisp(5, 200);
    }

    private static void value(String form, int due) {
        CHECKS.same(form + ": run()", Forms.run(x, form), ConditionLisp.OK);
        CHECKS.same(form + ": value()", x.value(), due);
    }

    private static void unhandled(String form, int error, int datum, int place) {
        CHECKS.same(form + ": run()", Forms.run(x, form), ConditionLisp.UNHANDLED);
        CHECKS.same(form + ": error()", x.error(), error);
        CHECKS.same(form + ": datum()", x.datum(), datum);
        CHECKS.same(form + ": place()", x.place(), place);
    }

    private static void printed(int... due) {
        CHECKS.same("output(-1)", x.output(-1), due.length);
        for (int k = 0; k < due.length; k++) {
            CHECKS.same("output(" + k + ")", x.output(k), due[k]);
        }
    }

    private static void catching() {
        fresh("CATCH and THROW");
        value("(catch 1)", 0);
        value("(catch 1 2 3)", 3);
        value("(catch 1 (add 10 (throw 1 5)) 6)", 5);
        value("(add 1 (catch 1 (catch 2 (throw 1 5) 7) 8))", 6);
        value("(add 1 (catch 1 (add 10 (catch 1 (throw 1 5)))))", 16);
        value("(catch 3 (catch (throw 3 4) 5) 6)", 4);
        unhandled("(catch (throw 1 9) 1)", 5, 1, 1);
        unhandled("(seq (catch 1 2) (throw 1 7))", 5, 1, 4);
        unhandled("(catch 2 (throw (print 1) (print 8)))", 5, 1, 2);
        printed(1, 8);
        Forms.define(x, 0, 1, "(throw v0 (add v0 1))");
        value("(catch 4 (catch 5 (call 0 4)) 1)", 5);
        value("(catch 4 (throw (throw 4 1) 2))", 1);
    }

    private static void handling() {
        fresh("HANDLE: the clause is evaluated right there, then the search goes on");
        value("(handle 2 0 9)", 0);
        value("(handle 2 0 (print 9) 3 4)", 4);
        printed();
        value("(handle 1 0 (print v0) (add 10 (signal 1 5)))", 10);
        printed(5);
        CHECKS.same("beats()", x.beats(), 1);
        value("(handle 1 0 (print 1) (handle 2 0 (print 2) (handle 3 0 (print 3) (signal 2 0) (signal 3 0) (signal 1 0))))", 0);
        printed(2, 1, 3, 2, 1, 1);
        CHECKS.same("beats()", x.beats(), 6);
        unhandled("(handle 1 0 (print v0) (error 2 5))", 2, 5, 3);
        printed(5);
        unhandled("(handle 1 0 (print v0) (add 1 (div 6 0)))", 3, 6, 5);
        printed(6);
        value("(catch 1 (handle 1 0 (throw 1 (add v0 1)) (error 2 5)))", 6);
        value("(signal 1 5)", 0);
        unhandled("(signal 1 (error 9 5))", 9, 5, 1);
        value("(seq (handle 1 0 (print 1) 2) (signal 1 3))", 0);
        printed();
        Forms.define(x, 0, 1, "(add v0 (signal 1 v0))");
        value("(handle 1 3 (print v3) (add (call 0 1) (call 0 2)))", 3);
        printed(1, 2);
        CHECKS.about("HANDLE: a clause that leaves ends the search");
        value("(catch 1 (handle 1 0 (print 1) (handle 1 0 (throw 1 8) (signal 1 2))))", 8);
        printed();
    }

    private static void clauseVariables() {
        fresh("HANDLE: b local is set and stays; locals are those around the HANDLE");
        value("(seq (set 1 7) (handle 1 0 (set 2 (add v0 v1)) (signal 1 5)) (add v2 v0))", 17);
        Forms.define(x, 0, 1, "(seq (set 1 50) (signal 1 v0) (add v0 v1))");
        value("(seq (set 0 1) (set 1 2) (handle 1 0 (set 1 (add v0 v1)) (add (mul 1000 (call 0 9)) v1)))", 59011);
        Forms.define(x, 1, 1, "(handle 1 3 (print (add v0 v3)) (call 0 20))");
        value("(seq (set 0 500) (set 3 600) (call 1 1) (add v0 v3))", 1100);
        printed(21);
        CHECKS.about("HANDLE: b special is bound while the clause is evaluated");
        value("(seq (set 8 3) (handle 1 8 (set 9 v8) (signal 1 5) (print v8)) v8)", 3);
        printed(3);
        CHECKS.same("special(9)", x.special(9), 5);
        value("(handle 1 8 (set 8 100) (signal 1 5) v8)", 3);
        CHECKS.same("special(8)", x.special(8), 3);
        value("(handle 1 11 (print (bound 11)) (signal 1 5) (bound 11))", 0);
        printed(1);
        value("(catch 1 (handle 1 8 (throw 1 v8) (error 2 6)))", 6);
        CHECKS.same("special(8)", x.special(8), 3);
        CHECKS.about("HANDLE: special variables have the values of the moment");
        value("(handle 1 0 (print v8) (bind 8 44 (signal 1 0)))", 0);
        printed(44);
        value("(handle 1 0 (set 8 45) (bind 8 44 (signal 1 0) (print v8)) v8)", 3);
        printed(45);
        CHECKS.about("CASE and RESTART: b set or bound");
        value("(seq (case 1 5 (add v5 1) (error 2 6)) v5)", 6);
        value("(seq (set 9 1) (add (case 1 9 (add v9 1) (error 2 6)) v9))", 8);
        value("(seq (restart 1 5 (add v5 1) (invoke 1 6)) v5)", 6);
        value("(seq (add (restart 1 9 (set 9 (add v9 1)) (invoke 1 6)) v9))", 8);
        CHECKS.same("special(9)", x.special(9), 1);
        value("(case 1 9 v9 (bind 9 50 (error 2 v9)))", 50);
        value("(case 1 0 v9 (bind 9 50 (error 2 v9)))", 1);
    }

    private static void clausesInForce() {
        fresh("HANDLE: in force in its clause is what was in force around it");
        value("(handle 1 0 (print v0) (handle 2 1 (signal 2 (add v1 1)) (signal 2 5)))", 0);
        printed(6, 5);
        CHECKS.same("beats()", x.beats(), 3);
        value("(handle 1 0 (print v0) (handle 2 1 (signal 2 9) (handle 1 2 (print (add 100 v2)) (signal 2 5))))", 0);
        printed(105, 9, 5);
        unhandled("(handle 2 0 (error 2 (add v0 1)) (error 2 5))", 2, 6, 1);
        CHECKS.same("beats()", x.beats(), 1);
        CHECKS.about("HANDLE: and the clauses begun in the clause");
        value("(handle 2 0 (case 2 1 (print v1) (handle 2 2 (print (add v2 10)) (error 3 7))) (signal 2 5))", 0);
        printed(17, 7);
        value("(case 1 0 (add v0 1000) (handle 1 0 (seq (case 3 1 (print v1) (div 4 0)) (error 2 8)) (signal 1 5)))", 1008);
        printed(4);
        CHECKS.about("HANDLE: after the clause, all are in force again");
        value("(handle 1 0 (print v0) (handle 2 1 (print (add 10 v1)) (signal 2 1) (signal 2 2)))", 0);
        printed(11, 1, 12, 2);
        value("(handle 1 0 (print 1) (catch 1 (handle 2 0 (throw 1 0) (error 2 1))) (signal 1 2))", 0);
        printed(1);
        Forms.define(x, 3, 3, "(add v0 (add v1 v2))");
        value("(handle 1 0 (print v0) (call 3 10 20 30) (signal 1 (call 3 1 2 3)))", 0);
        printed(6);
        CHECKS.about("a CATCH and a RESTART inside the BODY stay usable for the clause");
        value("(handle 1 0 (throw 1 (add v0 1)) (add 10 (catch 1 (signal 1 5) 99)))", 16);
        value("(handle 1 0 (invoke 2 v0) (add 10 (restart 2 1 (mul v1 3) (error 2 5) 99)))", 25);
        value("(catch 1 (handle 1 0 (throw 1 7) (add 10 (catch 1 (signal 1 5) 99))) 3)", 3);
        CHECKS.about("a function called by the clause has the clauses of the clause");
        Forms.define(x, 0, 0, "(signal 1 77)");
        value("(handle 1 0 (print v0) (handle 2 1 (call 0) (signal 2 5)))", 0);
        printed(77, 5);
    }

    private static void cases() {
        fresh("CASE");
        value("(case 1 0 9)", 0);
        value("(case 1 0 9 3 4)", 4);
        value("(case 2 0 (add v0 1) (add 10 (error 2 5)) 99)", 6);
        value("(case 2 0 (add v0 1) (add 10 (signal 1 5)))", 10);
        value("(case 2 0 1 (case 3 0 2 (error 2 5)))", 1);
        value("(case 2 0 1 (case 2 0 2 (error 3 5)))", 2);
        value("(case 2 0 (add v0 1) (case 2 0 (error 2 (add v0 10)) (error 2 5)))", 16);
        unhandled("(case 2 0 (error 2 (add v0 10)) (error 2 5))", 2, 15, 1);
        value("(case 2 0 1 (handle 2 0 (print v0) (error 2 5)))", 1);
        printed(5);
        value("(handle 1 0 (print v0) (case 2 0 1 (error 2 5)))", 1);
        printed();
        value("(handle 1 0 (print v0) (case 2 1 (signal 1 8) (error 2 5)))", 0);
        printed(8);
        Forms.define(x, 0, 1, "(div v0 0)");
        value("(seq (set 1 3) (case 3 0 (add v0 v1) (call 0 4)))", 7);
    }

    private static void restarts() {
        fresh("RESTART and INVOKE");
        value("(restart 1 0 9)", 0);
        value("(restart 1 0 9 3 4)", 4);
        value("(restart 1 0 (add v0 1) (add 10 (invoke 1 5)) 99)", 6);
        value("(restart 1 0 (add v0 1) (restart 2 0 50 (invoke 1 5)))", 6);
        value("(restart 1 0 (add v0 1) (add 100 (restart 1 0 (add v0 2) (invoke 1 5))))", 107);
        value("(restart 1 0 (add v0 1) (restart 1 0 (invoke 1 (add v0 2)) (invoke 1 5)))", 8);
        unhandled("(restart 1 0 (invoke 1 (add v0 2)) (invoke 1 5))", 5, 7, 1);
        unhandled("(seq (restart 1 0 1 2) (invoke 1 (print 4)))", 5, 4, 4);
        unhandled("(restart 0 0 1 (invoke 1 3))", 5, 3, 2);
        value("(case 5 0 (add v0 1) (invoke 7 3))", 4);
        Forms.define(x, 0, 1, "(restart 3 1 (add v0 v1) (error 2 v0))");
        value("(seq (set 0 1000) (handle 2 4 (invoke 3 (mul v4 2)) (add (call 0 3) (call 0 4))))", 21);
        CHECKS.about("RESTART: its clause sees what is in force around it");
        value("(case 1 0 (add v0 1) (restart 1 1 (error 2 v1) (case 1 0 77 (invoke 1 5))))", 6);
    }

    private static void protecting() {
        fresh("PROTECT");
        value("(protect 5)", 5);
        value("(protect 5 (print 6) (print 7))", 5);
        printed(6, 7);
        value("(add (catch 1 (protect (throw 1 3) (print 1) (print 2))) 10)", 13);
        printed(1, 2);
        value("(catch 1 (protect (protect (throw 1 3) (print 1)) (print 2)) (print 3))", 3);
        printed(1, 2);
        value("(block 0 (protect (return 0 4) (print 1)))", 4);
        printed(1);
        value("(restart 0 0 (print 3) (protect (invoke 0 4) (print 1)))", 3);
        printed(1, 3);
        value("(case 2 0 (print v0) (protect (error 2 4) (print 1)))", 4);
        printed(1, 4);
        unhandled("(protect (seq (protect (error 2 4) (print 1)) (print 9)) (print 2))", 2, 4, 3);
        printed(1, 2);
        value("(catch 1 (protect (throw 1 3)))", 3);
        CHECKS.about("PROTECT: nothing is left by a HANDLE's clause that ends");
        value("(handle 1 0 (print 1) (protect (seq (signal 1 4) (print 2) 8) (print 3)))", 8);
        printed(1, 2, 3);
        CHECKS.about("PROTECT: a clean-up that is left is not evaluated again");
        value("(catch 1 (protect 5 (print 1) (throw 1 6) (print 2)))", 6);
        printed(1);
        value("(catch 1 (protect (throw 1 5) (print 1) (throw 1 6) (print 2)))", 6);
        printed(1);
        CHECKS.about("PROTECT: in a call that is given up, and in a clause that is given up");
        Forms.define(x, 0, 1, "(protect (throw 1 v0) (print (add v0 1)))");
        value("(catch 1 (protect (call 0 5) (print 9)))", 5);
        printed(6, 9);
        value("(catch 1 (handle 1 0 (protect (throw 1 2) (print 1)) (protect (signal 1 0) (print 2))))", 2);
        printed(1, 2);
    }

    private static void cleanUpContext() {
        fresh("EXITS: the clean-up sees what is further out and no more");
        value("(seq (set 8 1) (catch 1 (bind 8 2 (protect (bind 8 3 (throw 1 0)) (print v8)))) (print v8))", 1);
        printed(2, 1);
        value("(catch 1 (protect (catch 2 (throw 1 5)) (print (case 5 0 v0 (throw 2 3)))))", 5);
        printed(2);
        value("(catch 1 (protect (restart 2 0 1 (throw 1 5)) (print (case 5 0 (add v0 40) (invoke 2 3)))))", 5);
        printed(43);
        value("(handle 1 0 (print v0) (catch 1 (protect (handle 1 0 (print 99) (throw 1 5)) (signal 1 6))))", 5);
        printed(6);
        Forms.define(x, 0, 0, "(seq (set 0 70) (throw 1 5))");
        value("(seq (set 0 7) (catch 1 (protect (call 0) (print v0))))", 5);
        printed(7);
        CHECKS.about("EXITS: a HANDLE whose clause was given up is in force again further in");
        value("(catch 1 (handle 2 0 (seq (print v0) (throw 1 v0)) (protect (error 2 4) (print 9) (signal 2 5) (print 8))))", 5);
        printed(4, 9, 5);
        CHECKS.about("EXITS: a target is in progress until it is reached");
        value("(case 2 0 (add v0 100) (protect (error 2 4) (error 2 5)))", 105);
        value("(restart 2 0 (add v0 100) (protect (invoke 2 4) (invoke 2 5)))", 105);
        CHECKS.about("EXITS: calls given up no longer count in the clean-up");
        ConditionLisp y = new ConditionLisp(1, 200);
        Forms.define(y, 0, 1, "(if v0 (throw 1 v0) (print 60))");
        CHECKS.same("run()", Forms.run(y, "(catch 1 (protect (call 0 5) (call 0 0)))"), ConditionLisp.OK);
        CHECKS.same("value()", y.value(), 5);
        CHECKS.same("output(0)", y.output(0), 60);
        CHECKS.about("EXITS: exits inside the clean-up do not end the one that waits");
        value("(catch 1 (protect (throw 1 5) (print (catch 1 (throw 1 6))) (print (block 0 (return 0 7)))) (print 9))", 5);
        printed(6, 7);
        unhandled("(protect (error 4 5) (print (case 2 0 v0 (error 3 6))) (protect (catch 1 (protect (throw 1 2) (print 8)))))", 4, 5, 1);
        printed(6, 8);
        unhandled("(protect (error 4 5) (catch 1 (protect (error 3 6) (throw 1 2))))", 4, 5, 1);
        unhandled("(seq 0 (protect (div 7 0) (print (catch 1 (protect (error 2 6) (throw 1 2))))))", 3, 7, 3);
        printed(2);
        CHECKS.about("EXITS: fuel that ends in a clean-up ends the run");
        CHECKS.same("run()", Forms.run(x, "(protect (error 2 1) (while 1))"), ConditionLisp.FUEL);
        CHECKS.same("error()", x.error(), 0);
        CHECKS.same("place()", x.place(), -1);
    }

    private static void replacedExits() {
        fresh("EXITS: one from a clean-up takes the place of the first for good");
        value("(catch 1 (add (catch 2 (protect (throw 1 5) (throw 2 6))) 100))", 106);
        value("(catch 1 (add (catch 2 (protect (throw 2 5) (throw 1 6))) 100))", 6);
        value("(add (catch 2 (protect (error 2 5) (throw 2 6))) 100)", 106);
        CHECKS.same("error()", x.error(), 0);
        CHECKS.same("place()", x.place(), -1);
        unhandled("(catch 1 (protect (throw 1 5) (error 3 6)))", 3, 6, 6);
        unhandled("(protect (error 2 5) (protect (error 3 6) (error 4 7)))", 4, 7, 6);
        value("(block 0 (protect (return 0 5) (return 0 6)) 7)", 6);
        value("(block 0 (block 1 (protect (return 0 5) (return 1 6))) 7)", 7);
        CHECKS.about("bindings end when a run ends");
        unhandled("(bind 10 1 (protect (bind 11 2 (error 2 5)) (set 11 3)))", 2, 5, 5);
        CHECKS.same("special(10)", x.special(10), NONE);
        CHECKS.same("special(11)", x.special(11), 3);
    }

    private static void returning() {
        fresh("promise 18: RETURN goes to the BLOCK of its own form and call");
        value("(add 1 (block 0 (handle 1 0 (return 0 v0) (add 100 (signal 1 5)))))", 6);
        value("(add 1 (block 0 (handle 1 0 (return 0 v0) (add 100 (block 0 (signal 1 5) 50)))))", 6);
        value("(block 0 (handle 1 0 (block 0 (return 0 v0)) (block 0 (signal 1 5)) 50))", 50);
        Forms.define(x, 0, 1, "(add 100 (block 0 (if v0 (handle 1 1 (return 0 v1) (call 0 (sub v0 1)) 5) (signal 1 7))))");
        value("(call 0 1)", 107);
        value("(call 0 2)", 105);
        value("(block 0 (handle 1 0 (return 0 v0) (call 0 0)))", 7);
        Forms.define(x, 1, 1, "(block 0 (handle 1 1 (if (same v0 2) (return 0 (add 40 v1)) 0) (if v0 (add 100 (call 1 (sub v0 1))) (signal 1 7))))");
        value("(call 1 2)", 47);
        value("(add (call 1 3) 1)", 148);
        CHECKS.about("promise 18: the locals of a run are 0 when it begins");
        value("(seq (set 0 1) (set 7 2) (handle 1 3 0 (signal 1 9)))", 0);
        value("(add v0 (add v3 v7))", 0);
    }

    private static void depthInClauses() {
        CHECKS.about("calls around a HANDLE's clause are in progress while it is evaluated");
        x = new ConditionLisp(2, 200);
        Forms.define(x, 0, 0, "(signal 1 5)");
        Forms.define(x, 1, 0, "(call 0)");
        Forms.define(x, 2, 0, "(seq (set 0 9) 66)");
        unhandled("(handle 1 0 (print (call 2)) (call 1))", 7, 2, 2);
        value("(seq (set 0 3) (handle 1 1 (print (call 2)) (call 0)) v0)", 3);
        printed(66);
        CHECKS.about("a call from a clause has locals of its own");
        x = new ConditionLisp(5, 200);
        Forms.define(x, 2, 1, "(seq (set 1 (add v1 v0)) v1)");
        Forms.define(x, 0, 1, "(seq (set 1 30) (signal 1 5) (add v0 v1))");
        value("(seq (set 1 1) (handle 1 0 (print (call 2 v0)) (add (call 0 4) v1)))", 35);
        printed(5);
    }

    private static void rulesAsErrors() {
        fresh("errors of the rules behave like ERROR of their type");
        Forms.define(x, 0, 1, "v0");
        String[] forms = {"(div 13 0)", "v9", "(throw 15 1)", "(aref 1 16)", "(call 5)", "(call 0)", "(inca 1 -7 1)", "(invoke 3 19)"};
        int[] types = {3, 4, 5, 6, 8, 9, 6, 5};
        int[] data = {13, 9, 15, 16, 5, 0, -7, 19};
        for (int i = 0; i < forms.length; i++) {
            value("(case " + types[i] + " 0 (add v0 1) (add 5 " + forms[i] + "))", data[i] + 1);
            value("(catch 1 (handle 2 0 (throw 1 (add v0 1)) (add 5 " + forms[i] + ")))", data[i] + 1);
            unhandled("(handle " + types[i] + " 0 (print 1) (seq " + forms[i] + "))", types[i], data[i], 4);
            printed(1);
        }
        fresh("errors of the rules: depth");
        Forms.define(x, 1, 0, "(case 7 0 (add v0 1) (call 1))");
        value("(call 1)", 6);
        CHECKS.same("beats()", x.beats(), 5);
        CHECKS.about("a reference that signals sees the clause's values afterwards in vain");
        unhandled("(handle 4 0 (set 9 5) (add 1 v9))", 4, 9, 5);
        CHECKS.same("special(9)", x.special(9), 5);
    }
}
