import java.util.ArrayDeque;
import java.util.ArrayList;
import java.util.List;

/**
 * The document read a second time, as a recursive evaluator whose exits are Java exceptions and whose
 * dynamic state is handed down in contexts: an independent source of due answers for ModelTest.
 */
final class LispModel {
    static final int NUM = 27;
    static final int REF = 28;

    static final class Node {
        int kind;
        int a;
        int b;
        int number;
        int function = -1;
        final List<Node> parts = new ArrayList<>();
    }

    private static final class Binding {
        final int variable;
        int value;
        final Binding outer;

        Binding(int variable, int value, Binding outer) {
            this.variable = variable;
            this.value = value;
            this.outer = outer;
        }
    }

    /** A BLOCK, CATCH, RESTART, HANDLE or CASE in progress; key is the label, tag or type. */
    private static final class Point {
        final Node list;
        final int key;
        final Context around;
        final Point outer;

        Point(Node list, int key, Context around, Point outer) {
            this.list = list;
            this.key = key;
            this.around = around;
            this.outer = outer;
        }
    }

    private static final class Context implements Cloneable {
        int[] locals = new int[8];
        Binding bindings;
        Point clauses;
        Point catches;
        Point restarts;
        Point blocks;
        int calls;

        Context copy() {
            try {
                return (Context) clone();
            } catch (CloneNotSupportedException e) {
                throw new IllegalStateException(e);
            }
        }
    }

    private static final class Exit extends RuntimeException {
        private static final long serialVersionUID = 1L;
        final transient Point target;
        final int value;
        final int type;
        final transient Node at;

        Exit(Point target, int value, int type, Node at) {
            super(null, null, false, false);
            this.target = target;
            this.value = value;
            this.type = type;
            this.at = at;
        }
    }

    private static final class NoFuel extends RuntimeException {
        private static final long serialVersionUID = 1L;

        NoFuel() {
            super(null, null, false, false);
        }
    }

    private final int depth;
    private final int fuel;
    private List<Node> nodes = new ArrayList<>();
    private final ArrayDeque<Node> open = new ArrayDeque<>();
    private final List<List<Node>> definitions = new ArrayList<>();
    private final int[] params = new int[6];
    private final List<Integer> parents = new ArrayList<>();
    private final Integer[] globals = new Integer[12];
    private final int[][] cells = new int[4][16];
    private List<Integer> output = new ArrayList<>();
    private int value;
    private int error;
    private int datum;
    private int place = -1;
    private int beats;

    LispModel(int depth, int fuel) {
        this.depth = Math.max(1, Math.min(5, depth));
        this.fuel = Math.max(1, Math.min(200, fuel));
        for (int f = 0; f < 6; f++) {
            definitions.add(null);
        }
        for (int t = 0; t <= 9; t++) {
            parents.add(t < 2 ? 0 : t == 2 ? 1 : 2);
        }
    }

    // ---- what the generator of ModelTest looks at ----

    boolean complete() {
        return !nodes.isEmpty() && open.isEmpty();
    }

    int nodeCount() {
        return nodes.size();
    }

    int openCount() {
        return open.size();
    }

    boolean mayClose() {
        return !open.isEmpty() && open.peek().parts.size() >= least(open.peek().kind);
    }

    boolean takesParts() {
        return open.isEmpty() ? nodes.isEmpty() : open.peek().parts.size() < most(open.peek().kind);
    }

    int types() {
        return parents.size() - 1;
    }

    // ---- the face ----

    boolean open(int op, int a, int b) {
        if (!room() || open.size() >= 12 || op < 0 || op > 26 || !operands(op, a, b)) {
            return false;
        }
        open.push(add(op, a, b));
        return true;
    }

    boolean num(int v) {
        if (!room()) {
            return false;
        }
        add(NUM, v, 0);
        return true;
    }

    boolean ref(int v) {
        if (!room() || v < 0 || v > 11) {
            return false;
        }
        add(REF, v, 0);
        return true;
    }

    boolean close() {
        if (!mayClose()) {
            return false;
        }
        open.pop();
        return true;
    }

    void drop() {
        nodes = new ArrayList<>();
        open.clear();
    }

    int define(int f, int count) {
        if (!complete()) {
            return 3;
        }
        if (f < 0 || f > 5 || count < 0 || count > 3) {
            return 4;
        }
        int total = nodes.size();
        for (int g = 0; g < 6; g++) {
            if (g != f && definitions.get(g) != null) {
                total += definitions.get(g).size();
            }
        }
        if (total > 200) {
            return 5;
        }
        for (Node n : nodes) {
            n.function = f;
        }
        definitions.set(f, nodes);
        params[f] = count;
        drop();
        return 0;
    }

    int run() {
        if (!complete()) {
            return 3;
        }
        Node root = nodes.get(0);
        drop();
        output = new ArrayList<>();
        value = 0;
        error = 0;
        datum = 0;
        place = -1;
        beats = 0;
        try {
            value = evaluate(root, new Context());
            return 0;
        } catch (Exit e) {
            error = e.type;
            datum = e.value;
            place = e.at.number + (e.at.function < 0 ? 0 : 100 * (1 + e.at.function));
            return 1;
        } catch (NoFuel e) {
            return 2;
        }
    }

    int type(int parent) {
        if (parent < 1 || parent > types() || types() == 15) {
            return 0;
        }
        parents.add(parent);
        return types();
    }

    int value() {
        return value;
    }

    int error() {
        return error;
    }

    int datum() {
        return datum;
    }

    int place() {
        return place;
    }

    int beats() {
        return beats;
    }

    int output(int k) {
        if (k == -1) {
            return output.size();
        }
        return k < 0 || k >= 24 || k >= output.size() ? 0 : output.get(k);
    }

    long special(int k) {
        return k < 8 || k > 11 || globals[k] == null ? 1L << 32 : globals[k];
    }

    int cell(int a, int i) {
        return a < 0 || a > 3 || i < 0 || i > 15 ? 0 : cells[a][i];
    }

    // ---- building ----

    private boolean room() {
        return nodes.size() < 56 && !complete() && takesParts();
    }

    private Node add(int kind, int a, int b) {
        Node n = new Node();
        n.kind = kind;
        n.a = a;
        n.b = b;
        n.number = nodes.size();
        nodes.add(n);
        if (!open.isEmpty()) {
            open.peek().parts.add(n);
        }
        return n;
    }

    private static int least(int op) {
        // One digit for each kind, 0 to 26.
        return "222222301110112111111110120".charAt(op) - '0';
    }

    private static int most(int op) {
        boolean many = op == 7 || op == 9 || op == 10 || op == 11 || op == 13 || op >= 15 && op <= 18;
        return many ? 1000 : op == 23 ? 3 : least(op);
    }

    private boolean operands(int op, int a, int b) {
        boolean label = a >= 0 && a <= 7;
        boolean isType = a >= 1 && a <= types();
        boolean variable = b >= 0 && b <= 11;
        switch (op) {
            case 8: return a >= 0 && a <= 11;
            case 9: case 26: return a >= 8 && a <= 11;
            case 11: case 19: return label;
            case 12: return open.stream().anyMatch(n -> n.kind == 11 && n.a == a);
            case 16: case 17: return isType && variable;
            case 18: return label && variable;
            case 20: case 21: return isType;
            case 23: return a >= 0 && a <= 5;
            case 24: case 25: return a >= 0 && a <= 3;
            default: return true;
        }
    }

    // ---- evaluating ----

    private void beat() {
        if (beats == fuel) {
            throw new NoFuel();
        }
        beats++;
    }

    private int part(Node n, int i, Context c) {
        return evaluate(n.parts.get(i), c);
    }

    private int body(Node n, int from, Context c) {
        int last = 0;
        for (int i = from; i < n.parts.size(); i++) {
            last = part(n, i, c);
        }
        return last;
    }

    private int evaluate(Node n, Context c) {
        switch (n.kind) {
            case NUM: return n.a;
            case REF: return reference(n, c);
            case 6: return part(n, 0, c) != 0 ? part(n, 1, c) : part(n, 2, c);
            case 7: return body(n, 0, c);
            case 9: return bind(n, c);
            case 10: return loop(n, c);
            case 11: return block(n, c);
            case 13: return catcher(n, c);
            case 15: return protect(n, c);
            case 16: return handle(n, c);
            case 17: return caseList(n, c);
            case 18: return restart(n, c);
            case 26: return find(n.a, c) != null || globals[n.a] != null ? 1 : 0;
            default: break;
        }
        int[] v = new int[n.parts.size()];
        for (int i = 0; i < v.length; i++) {
            v[i] = part(n, i, c);
        }
        switch (n.kind) {
            case 0: return v[0] + v[1];
            case 1: return v[0] - v[1];
            case 2: return v[0] * v[1];
            case 3: return v[1] == 0 ? fail(n, 3, v[0], c) : (int) ((long) v[0] / v[1]);
            case 4: return v[0] < v[1] ? 1 : 0;
            case 5: return v[0] == v[1] ? 1 : 0;
            case 8: return set(n.a, v[0], c);
            case 12: throw new Exit(innermost(c.blocks, n.a), v[0], 0, n);
            case 14: return exitTo(c.catches, v[0], v[1], v[0], n, c);
            case 19: return exitTo(c.restarts, n.a, v[0], v[0], n, c);
            case 20: signal(n.a, v[0], c); return 0;
            case 21: return fail(n, n.a, v[0], c);
            case 22: output.add(v[0]); return v[0];
            case 23: return call(n, v, c);
            case 24: return v[0] < 0 || v[0] > 15 ? fail(n, 6, v[0], c) : cells[n.a][v[0]];
            default: return increase(n, v[0], v[1], c);
        }
    }

    private static Binding find(int variable, Context c) {
        Binding b = c.bindings;
        while (b != null && b.variable != variable) {
            b = b.outer;
        }
        return b;
    }

    private static Point innermost(Point p, int key) {
        while (p != null && p.key != key) {
            p = p.outer;
        }
        return p;
    }

    private int reference(Node n, Context c) {
        if (n.a < 8) {
            return c.locals[n.a];
        }
        Binding b = find(n.a, c);
        if (b != null) {
            return b.value;
        }
        return globals[n.a] != null ? globals[n.a] : fail(n, 4, n.a, c);
    }

    private int set(int variable, int v, Context c) {
        Binding b = find(variable, c);
        if (variable < 8) {
            c.locals[variable] = v;
        } else if (b != null) {
            b.value = v;
        } else {
            globals[variable] = v;
        }
        return v;
    }

    private int increase(Node n, int i, int amount, Context c) {
        if (i < 0 || i > 15) {
            return fail(n, 6, i, c);
        }
        int old = cells[n.a][i];
        int bits = n.a == 0 ? 1 : n.a == 1 ? 8 : 16;
        long span = 1L << bits;
        long sum = Math.floorMod((long) old + amount, span);
        boolean signed = n.a == 1 || n.a == 2;
        cells[n.a][i] = (int) (signed && sum >= span / 2 ? sum - span : sum);
        return old;
    }

    private int bind(Node n, Context c) {
        Context inner = c.copy();
        inner.bindings = new Binding(n.a, part(n, 0, c), c.bindings);
        return body(n, 1, inner);
    }

    private int loop(Node n, Context c) {
        while (true) {
            beat();
            if (part(n, 0, c) == 0) {
                return 0;
            }
            body(n, 1, c);
        }
    }

    private int bodyOrExit(Node n, int from, Context inner, Point target) {
        try {
            return body(n, from, inner);
        } catch (Exit e) {
            if (e.target != target) {
                throw e;
            }
            return e.value;
        }
    }

    private int block(Node n, Context c) {
        Context inner = c.copy();
        inner.blocks = new Point(n, n.a, c, c.blocks);
        return bodyOrExit(n, 0, inner, inner.blocks);
    }

    private int catcher(Node n, Context c) {
        Context inner = c.copy();
        inner.catches = new Point(n, part(n, 0, c), c, c.catches);
        return bodyOrExit(n, 1, inner, inner.catches);
    }

    private int protect(Node n, Context c) {
        int v;
        try {
            v = part(n, 0, c);
        } catch (Exit e) {
            body(n, 1, c);
            throw e;
        }
        body(n, 1, c);
        return v;
    }

    private int handle(Node n, Context c) {
        Context inner = c.copy();
        inner.clauses = new Point(n, n.a, c, c.clauses);
        return body(n, 1, inner);
    }

    private int caseList(Node n, Context c) {
        Context inner = c.copy();
        inner.clauses = new Point(n, n.a, c, c.clauses);
        return bodyOrClause(n, c, inner, inner.clauses);
    }

    private int restart(Node n, Context c) {
        Context inner = c.copy();
        inner.restarts = new Point(n, n.a, c, c.restarts);
        return bodyOrClause(n, c, inner, inner.restarts);
    }

    private int bodyOrClause(Node n, Context c, Context inner, Point target) {
        int given;
        try {
            return body(n, 1, inner);
        } catch (Exit e) {
            if (e.target != target) {
                throw e;
            }
            given = e.value;
        }
        return clause(n, given, c.copy());
    }

    private int clause(Node n, int given, Context c) {
        if (n.b < 8) {
            c.locals[n.b] = given;
        } else {
            c.bindings = new Binding(n.b, given, c.bindings);
        }
        return part(n, 0, c);
    }

    private int exitTo(Point points, int key, int v, int about, Node n, Context c) {
        Point target = innermost(points, key);
        if (target == null) {
            return fail(n, 5, about, c);
        }
        throw new Exit(target, v, 0, n);
    }

    private int call(Node n, int[] v, Context c) {
        List<Node> definition = definitions.get(n.a);
        if (definition == null) {
            return fail(n, 8, n.a, c);
        }
        if (params[n.a] != v.length) {
            return fail(n, 9, v.length, c);
        }
        if (c.calls == depth) {
            return fail(n, 7, depth, c);
        }
        beat();
        Context inner = c.copy();
        inner.locals = new int[8];
        System.arraycopy(v, 0, inner.locals, 0, v.length);
        inner.blocks = null;
        inner.calls++;
        return evaluate(definition.get(0), inner);
    }

    // ---- signalling ----

    private boolean isA(int t, int ancestor) {
        return t == ancestor || t > 0 && isA(parents.get(t), ancestor);
    }

    private void signal(int t, int about, Context c) {
        for (Point p = c.clauses; p != null; p = p.outer) {
            if (!isA(t, p.key)) {
                continue;
            }
            if (p.list.kind == 17) {
                throw new Exit(p, about, 0, p.list);
            }
            beat();
            Context inner = c.copy();
            inner.locals = p.around.locals;
            inner.blocks = p.around.blocks;
            inner.clauses = p.around.clauses;
            clause(p.list, about, inner);
        }
    }

    private int fail(Node n, int t, int about, Context c) {
        signal(t, about, c);
        throw new Exit(null, about, t, n);
    }
}
