/** One object at work, and the checks on it. It is never used for more than the document's 512 calls. */
final class Bench {
    static final long NONE = 4294967296L;
    private final Checks checks;
    private ConditionLisp x;
    private int calls;

    Bench(Checks checks) {
        this.checks = checks;
    }

    /** Begins the test of one sentence, with a new object. */
    void fresh(String sentence) {
        fresh(sentence, 5, 200);
    }

    void fresh(String sentence, int depth, int fuel) {
        checks.about(sentence);
        renew(depth, fuel);
    }

    /** A new object for the same sentence. */
    void renew(int depth, int fuel) {
        x = new ConditionLisp(depth, fuel);
        calls = 0;
    }

    void renew() {
        renew(5, 200);
    }

    private void count(int more) {
        calls += more;
        if (calls > 512) {
            throw new IllegalStateException("more than 512 calls");
        }
    }

    void define(int f, int params, String form) {
        count(Forms.build(x, form) + 1);
        checks.same("define(" + f + ", " + params + ") of " + form, x.define(f, params), ConditionLisp.OK);
    }

    int type(int parent) {
        count(1);
        return x.type(parent);
    }

    private void run(String form, int due) {
        count(Forms.build(x, form) + 1);
        checks.same(form + ": run()", x.run(), due);
    }

    private void answers(String form, int value, int error, int datum, int place) {
        count(4);
        checks.same(form + ": value()", x.value(), value);
        checks.same(form + ": error()", x.error(), error);
        checks.same(form + ": datum()", x.datum(), datum);
        checks.same(form + ": place()", x.place(), place);
    }

    void value(String form, int due) {
        run(form, ConditionLisp.OK);
        answers(form, due, 0, 0, -1);
    }

    void unhandled(String form, int error, int datum, int place) {
        run(form, ConditionLisp.UNHANDLED);
        answers(form, 0, error, datum, place);
    }

    void outOfFuel(String form) {
        run(form, ConditionLisp.FUEL);
        answers(form, 0, 0, 0, -1);
    }

    void printed(int... due) {
        count(1 + due.length);
        checks.same("output(-1)", x.output(-1), due.length);
        for (int k = 0; k < due.length; k++) {
            checks.same("output(" + k + ")", x.output(k), due[k]);
        }
    }

    void output(int k, int due) {
        count(1);
        checks.same("output(" + k + ")", x.output(k), due);
    }

    void beats(int due) {
        count(1);
        checks.same("beats()", x.beats(), due);
    }

    void special(int k, long due) {
        count(1);
        checks.same("special(" + k + ")", x.special(k), due);
    }

    void cell(int a, int i, int due) {
        count(1);
        checks.same("cell(" + a + ", " + i + ")", x.cell(a, i), due);
    }
}
