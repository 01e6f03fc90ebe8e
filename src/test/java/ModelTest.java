/**
 * Makes the same calls on ConditionLisp and on LispModel, many thousand short programs, and compares
 * every answer. The sequence of numbers that chooses the calls is fixed, so each run of the test is the same.
 */
public final class ModelTest {
    private static final int OBJECTS = 30000;
    private static final int CALLS = 490;
    private static final String[] NAMES = {
        "open", "num", "ref", "close", "drop", "define", "run", "type", "value", "error", "datum",
        "place", "beats", "output", "special", "cell"};
    // The kinds that bend the flow of control come up more often than the plain ones.
    private static final int[] KINDS = {
        0, 1, 2, 3, 4, 5, 6, 6, 7, 7, 8, 8, 8, 9, 9, 10, 11, 11, 12, 12, 12, 13, 13, 14, 14, 14,
        15, 15, 15, 15, 16, 16, 16, 16, 16, 17, 17, 17, 18, 18, 18, 19, 19, 19, 20, 20, 20, 21, 21, 21,
        22, 22, 22, 22, 23, 23, 23, 23, 24, 25, 25, 26};

    private long state = 20261116L;
    private ConditionLisp x;
    private LispModel model;
    private StringBuilder story;
    private int made;
    private boolean wrong;
    private final int[] answers = new int[6];

    public static void main(String[] args) {
        ModelTest test = new ModelTest();
        int objects = args.length > 0 ? Integer.parseInt(args[0]) : OBJECTS;
        for (int i = 0; i < objects && !test.wrong; i++) {
            test.useObject(i);
        }
        System.out.println("ModelTest: " + objects + " objects, runs OK " + test.answers[0]
            + ", UNHANDLED " + test.answers[1] + ", FUEL " + test.answers[2]);
        if (test.wrong) {
            System.exit(1);
        }
    }

    private int pick(int n) {
        state = state * 6364136223846793005L + 1442695040888963407L;
        return (int) ((state >>> 33) % n);
    }

    private void useObject(int number) {
        int depth = pick(8) - 1;
        int fuel = pick(4) == 0 ? pick(8) - 1 : pick(230);
        x = new ConditionLisp(depth, fuel);
        model = new LispModel(depth, fuel);
        story = new StringBuilder("object " + number + ": new(" + depth + ", " + fuel + ")");
        made = 0;
        boolean noisy = pick(4) == 0;
        while (made < CALLS && !wrong) {
            buildForm(noisy);
            useForm();
        }
    }

    private void buildForm(boolean noisy) {
        int wish = 4 + pick(50);
        for (int i = 0; i < 200 && made < CALLS && !model.complete() && !wrong; i++) {
            if (noisy && pick(12) == 0) {
                anyCall();
            } else if (model.nodeCount() >= 56 && !model.mayClose()) {
                call(4, 0, 0, 0);
            } else if (!model.takesParts() || model.mayClose() && pick(3) == 0) {
                call(3, 0, 0, 0);
            } else if (model.nodeCount() < wish && (model.nodeCount() == 0 || pick(3) != 0)) {
                openList();
            } else {
                addLeaf();
            }
        }
    }

    private void openList() {
        int op = KINDS[pick(KINDS.length)];
        boolean accepted = call(0, op, operand(op), pick(4) == 0 ? 8 + pick(2) : pick(3)) != 0;
        if (!accepted) {
            addLeaf();
        }
    }

    private int operand(int op) {
        switch (op) {
            case 8: return pick(3) == 0 ? 8 + pick(4) : pick(3);
            case 9: case 26: return 8 + pick(3);
            case 16: case 17: return pick(3) == 0 ? 1 + pick(model.types()) : 1 + pick(2);
            case 20: case 21: return 1 + pick(model.types());
            case 23: return pick(4);
            case 24: case 25: return pick(4);
            default: return pick(2);
        }
    }

    private void addLeaf() {
        if (pick(2) == 0) {
            call(2, pick(4) == 0 ? 8 + pick(3) : pick(3), 0, 0);
        } else {
            call(1, pick(12) == 0 ? pick(Integer.MAX_VALUE) * 2 + pick(2) : pick(4) - (pick(9) == 0 ? 2 : 0), 0, 0);
        }
    }

    private void useForm() {
        if (pick(10) == 0) {
            call(7, 1 + pick(model.types()), 0, 0);
        }
        if (pick(5) < 2) {
            call(5, pick(4), pick(3) == 0 ? 1 + pick(3) : 0, 0);
        }
        if (model.complete()) {
            long status = call(6, 0, 0, 0);
            answers[(int) status]++;
        }
        for (int method = 8; method <= 12; method++) {
            call(method, 0, 0, 0);
        }
        for (int k = -1; k < 6 && k < model.output(-1); k++) {
            call(13, k, 0, 0);
        }
        call(14, 8 + pick(4), 0, 0);
        call(15, pick(4), pick(4), 0);
    }

    private void anyCall() {
        int method = pick(16);
        int small = pick(34) - 4;
        int edge = pick(2) == 0 ? small : pick(Integer.MAX_VALUE) * 2 + pick(2);
        call(method == 4 && pick(8) != 0 ? 3 : method, edge, pick(20) - 3, pick(18) - 3);
    }

    private long call(int method, int a, int b, int c) {
        made++;
        long got = onProgram(method, a, b, c);
        long due = onModel(method, a, b, c);
        story.append("\n  ").append(NAMES[method]).append('(').append(a).append(", ").append(b)
            .append(", ").append(c).append(") ").append(got);
        if (got != due && !wrong) {
            wrong = true;
            System.out.println(story + ", due is " + due);
        }
        return due;
    }

    private long onProgram(int method, int a, int b, int c) {
        switch (method) {
            case 0: return x.open(a, b, c) ? 1 : 0;
            case 1: return x.num(a) ? 1 : 0;
            case 2: return x.ref(a) ? 1 : 0;
            case 3: return x.close() ? 1 : 0;
            case 4: x.drop(); return 0;
            case 5: return x.define(a, b);
            case 6: return x.run();
            case 7: return x.type(a);
            case 8: return x.value();
            case 9: return x.error();
            case 10: return x.datum();
            case 11: return x.place();
            case 12: return x.beats();
            case 13: return x.output(a);
            case 14: return x.special(a);
            default: return x.cell(a, b);
        }
    }

    private long onModel(int method, int a, int b, int c) {
        switch (method) {
            case 0: return model.open(a, b, c) ? 1 : 0;
            case 1: return model.num(a) ? 1 : 0;
            case 2: return model.ref(a) ? 1 : 0;
            case 3: return model.close() ? 1 : 0;
            case 4: model.drop(); return 0;
            case 5: return model.define(a, b);
            case 6: return model.run();
            case 7: return model.type(a);
            case 8: return model.value();
            case 9: return model.error();
            case 10: return model.datum();
            case 11: return model.place();
            case 12: return model.beats();
            case 13: return model.output(a);
            case 14: return model.special(a);
            default: return model.cell(a, b);
        }
    }
}
