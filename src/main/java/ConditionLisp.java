public final class ConditionLisp {
    public static final int OK = 0;
    public static final int UNHANDLED = 1;
    public static final int FUEL = 2;
    public static final int INCOMPLETE = 3;
    public static final int BAD = 4;
    public static final int FULL = 5;

    // The kinds of nodes: those of lists as the document numbers them, then the two leaves.
    private static final int ADD = 0;
    private static final int SUB = 1;
    private static final int MUL = 2;
    private static final int DIV = 3;
    private static final int LESS = 4;
    private static final int SAME = 5;
    private static final int IF = 6;
    private static final int SEQ = 7;
    private static final int SET = 8;
    private static final int BIND = 9;
    private static final int WHILE = 10;
    private static final int BLOCK = 11;
    private static final int RETURN = 12;
    private static final int CATCH = 13;
    private static final int THROW = 14;
    private static final int PROTECT = 15;
    private static final int HANDLE = 16;
    private static final int CASE = 17;
    private static final int RESTART = 18;
    private static final int INVOKE = 19;
    private static final int SIGNAL = 20;
    private static final int ERROR = 21;
    private static final int PRINT = 22;
    private static final int CALL = 23;
    private static final int AREF = 24;
    private static final int INCA = 25;
    private static final int BOUND = 26;
    private static final int NUMBER = 27;
    private static final int REFERENCE = 28;

    private static final int ARITH_TYPE = 3;
    private static final int UNBOUND_TYPE = 4;
    private static final int CONTROL_TYPE = 5;
    private static final int INDEX_TYPE = 6;
    private static final int DEPTH_TYPE = 7;
    private static final int UNDEFINED_TYPE = 8;
    private static final int ARGUMENTS_TYPE = 9;
    private static final int MOST_TYPES = 15;
    private static final int TYPE_CELLS = 16;

    private static final int FORM_NODES = 56;
    private static final int MOST_OPEN = 12;
    private static final int MOST_DEFINED_NODES = 200;
    private static final int FUNCTIONS = 6;
    private static final int MOST_PARAMS = 3;
    // One slot of nodes for each function and a last one for the form that is being built.
    private static final int SLOTS = FUNCTIONS + 1;
    private static final int FORM_SLOT = FUNCTIONS;
    private static final int FORM_BASE = FORM_SLOT * FORM_NODES;
    private static final int NODES = SLOTS * FORM_NODES;

    private static final int LABELS = 8;
    private static final int LOCALS = 8;
    private static final int SPECIALS = 4;
    private static final int VARIABLES = LOCALS + SPECIALS;
    private static final int MOST_DEPTH = 5;
    private static final int MOST_FUEL = 200;
    private static final int LOCAL_CELLS = (MOST_DEPTH + 1) * LOCALS;
    private static final int ARRAYS = 4;
    private static final int ELEMENTS = 16;
    private static final int ARRAY_CELLS = ARRAYS * ELEMENTS;
    private static final int KEPT_OUTPUT = 24;
    private static final long NO_VALUE = 4294967296L;

    // What the machine does in its next step.
    private static final int BEGINNING = 0;
    private static final int PROCEEDING = 1;
    private static final int APPLYING = 2;
    private static final int FINISHING = 3;
    private static final int DELIVERING = 4;
    private static final int SEARCHING = 5;
    private static final int EXITING = 6;
    private static final int DONE = 7;

    // How far the evaluation of a frame's node is.
    private static final int PARTS = 0;
    private static final int BODY = 1;
    private static final int CLEAN_UP = 2;
    private static final int LEAVING = 3;
    private static final int SIGNALLING = 4;
    private static final int CLAUSE = 5;
    private static final int CALLED = 6;
    private static final int HANDLING = 7;

    // The cells of a frame. The values of the first three parts lie from F_FIRST on. A PROTECT never
    // signals, so the exit that waits for its clean-up lies where a signalling frame has its condition.
    private static final int F_NODE = 0;
    private static final int F_ENV = 1;
    private static final int F_PHASE = 2;
    private static final int F_NEXT = 3;
    private static final int F_LEFT = 4;
    private static final int F_FIRST = 5;
    private static final int F_SECOND = 6;
    private static final int F_FORCE = 8;
    private static final int F_CALLS = 9;
    private static final int F_BOUND = 10;
    private static final int F_OLD_VALUE = 11;
    private static final int F_OLD_HAS = 12;
    private static final int F_TYPE = 13;
    private static final int F_DATUM = 14;
    private static final int F_SEARCH = 15;
    private static final int F_TARGET = 15;
    private static final int F_PLACE = 16;
    private static final int FRAME_WIDTH = 17;
    private static final int KEPT_PARTS = 3;
    // A node is in progress at most once in each of six calls, and so is a HANDLE's clause:
    // 6 * (56 + 56) frames are never passed.
    private static final int MOST_FRAMES = 700;
    private static final int FRAME_CELLS = MOST_FRAMES * FRAME_WIDTH;
    // Each beat lets at most 56 nodes be evaluated, in a handful of steps each: some 100000.
    private static final int MOST_STEPS = 10000000;
    private static final int NOWHERE = -1;

    private final int[] nodeOp = new int[NODES];
    private final int[] nodeA = new int[NODES];
    private final int[] nodeB = new int[NODES];
    private final int[] nodeParts = new int[NODES];
    private final int[] nodeSize = new int[NODES];
    private final int[] slotSize = new int[SLOTS];
    private final int[] slotParams = new int[SLOTS];
    private final int[] openLists = new int[MOST_OPEN];
    private int openCount;

    private final int[] typeParent = new int[TYPE_CELLS];
    private int typeCount;
    private final int[] elements = new int[ARRAY_CELLS];
    private final int[] locals = new int[LOCAL_CELLS];
    private final int[] specialValue = new int[SPECIALS];
    private final boolean[] specialHas = new boolean[SPECIALS];
    private final int[] printed = new int[KEPT_OUTPUT];
    private int printedCount;

    private int depthLimit;
    private int fuelLimit;
    private int lastStatus;
    private int lastValue;
    private int lastError;
    private int lastDatum;
    private int lastPlace;
    private int beatsUsed;

    private final int[] frames = new int[FRAME_CELLS];
    private int frameCount;
    private int mode;
    private int currentNode;
    private int currentEnv;
    private int result;
    private int calls;
    // The frame number of the innermost HANDLE or CASE in force; each keeps the next one outwards.
    private int inForce;
    private int exitTarget;
    private int exitValue;
    private int exitType;
    private int exitPlace;

    public ConditionLisp(int depth, int fuel) {
        depthLimit = clamped(depth, MOST_DEPTH);
        fuelLimit = clamped(fuel, MOST_FUEL);
        typeParent[2] = 1;
        for (int t = ARITH_TYPE; t <= ARGUMENTS_TYPE; t++) {
            typeParent[t] = 2;
        }
        typeCount = ARGUMENTS_TYPE;
        lastPlace = NOWHERE;
    }

    // ---- building ----

    public boolean open(int op, int a, int b) {
        if (!hasRoom() || openCount >= MOST_OPEN || !operandsFit(op, a, b)) {
            return false;
        }
        int node = FORM_BASE + slotSize[FORM_SLOT];
        int second = b;
        if (op == RETURN) {
            // The distance to its BLOCK stays true when the form moves to a function's slot.
            int block = blockAround(a);
            second = node - block;
        }
        addNode(op, a, second);
        openLists[openCount] = node;
        openCount++;
        return true;
    }

    public boolean num(int v) {
        if (!hasRoom()) {
            return false;
        }
        addNode(NUMBER, v, 0);
        return true;
    }

    public boolean ref(int v) {
        if (!hasRoom() || !isVariable(v)) {
            return false;
        }
        addNode(REFERENCE, v, 0);
        return true;
    }

    public boolean close() {
        if (openCount == 0) {
            return false;
        }
        int node = openLists[openCount - 1];
        int least = leastParts(nodeOp[node]);
        if (nodeParts[node] < least) {
            return false;
        }
        nodeSize[node] = FORM_BASE + slotSize[FORM_SLOT] - node;
        openCount--;
        return true;
    }

    public void drop() {
        emptyForm();
    }

    public int define(int f, int params) {
        if (!isComplete()) {
            return INCOMPLETE;
        }
        if (!within(f, FUNCTIONS) || params < 0 || params > MOST_PARAMS) {
            return BAD;
        }
        int total = slotSize[FORM_SLOT];
        for (int g = 0; g < FUNCTIONS; g++) {
            total += g == f ? 0 : slotSize[g];
        }
        if (total > MOST_DEFINED_NODES) {
            return FULL;
        }
        storeForm(f);
        slotParams[f] = params;
        emptyForm();
        return OK;
    }

    private boolean isComplete() {
        return openCount == 0 && slotSize[FORM_SLOT] > 0;
    }

    private void emptyForm() {
        slotSize[FORM_SLOT] = 0;
        openCount = 0;
    }

    private void storeForm(int f) {
        int base = f * FORM_NODES;
        int size = slotSize[FORM_SLOT];
        for (int i = 0; i < size && i < FORM_NODES; i++) {
            nodeOp[base + i] = nodeOp[FORM_BASE + i];
            nodeA[base + i] = nodeA[FORM_BASE + i];
            nodeB[base + i] = nodeB[FORM_BASE + i];
            nodeParts[base + i] = nodeParts[FORM_BASE + i];
            nodeSize[base + i] = nodeSize[FORM_BASE + i];
        }
        slotSize[f] = size;
    }

    private boolean hasRoom() {
        if (slotSize[FORM_SLOT] >= FORM_NODES) {
            return false;
        }
        if (openCount == 0) {
            return slotSize[FORM_SLOT] == 0;
        }
        int list = openLists[openCount - 1];
        int most = mostParts(nodeOp[list]);
        return nodeParts[list] < most;
    }

    private void addNode(int op, int a, int b) {
        int node = FORM_BASE + slotSize[FORM_SLOT];
        nodeOp[node] = op;
        nodeA[node] = a;
        nodeB[node] = b;
        nodeParts[node] = 0;
        nodeSize[node] = 1;
        if (openCount > 0) {
            nodeParts[openLists[openCount - 1]]++;
        }
        slotSize[FORM_SLOT]++;
    }

    private boolean operandsFit(int op, int a, int b) {
        switch (op) {
            case SET:
                return isVariable(a);
            case BIND:
            case BOUND:
                return isSpecial(a);
            case BLOCK:
            case INVOKE:
                return within(a, LABELS);
            case RETURN:
                return blockAround(a) != NOWHERE;
            case HANDLE:
            case CASE:
                return isType(a) && isVariable(b);
            case RESTART:
                return within(a, LABELS) && isVariable(b);
            case SIGNAL:
            case ERROR:
                return isType(a);
            case CALL:
                return within(a, FUNCTIONS);
            case AREF:
            case INCA:
                return within(a, ARRAYS);
            default:
                return op >= ADD && op <= BOUND;
        }
    }

    private int blockAround(int label) {
        for (int i = openCount - 1; i >= 0; i--) {
            int list = openLists[i];
            if (nodeOp[list] == BLOCK && nodeA[list] == label) {
                return list;
            }
        }
        return NOWHERE;
    }

    private static int leastParts(int op) {
        switch (op) {
            case SEQ:
            case BLOCK:
            case CALL:
            case BOUND:
                return 0;
            case ADD:
            case SUB:
            case MUL:
            case DIV:
            case LESS:
            case SAME:
            case THROW:
            case INCA:
                return 2;
            case IF:
                return 3;
            default:
                return 1;
        }
    }

    private static int mostParts(int op) {
        switch (op) {
            case SEQ:
            case BIND:
            case WHILE:
            case BLOCK:
            case CATCH:
            case PROTECT:
            case HANDLE:
            case CASE:
            case RESTART:
                return FORM_NODES;
            case CALL:
                return MOST_PARAMS;
            default:
                return leastParts(op);
        }
    }

    private static boolean within(int v, int count) {
        return v >= 0 && v < count;
    }

    private static boolean isVariable(int v) {
        return v >= 0 && v < VARIABLES;
    }

    private static boolean isSpecial(int v) {
        return v >= LOCALS && v < VARIABLES;
    }

    private boolean isType(int t) {
        return t >= 1 && t <= typeCount;
    }

    private static int clamped(int v, int most) {
        if (v < 1) {
            return 1;
        }
        return v > most ? most : v;
    }

    // ---- what can be asked ----

    public int type(int parent) {
        if (!isType(parent) || typeCount >= MOST_TYPES) {
            return 0;
        }
        typeCount++;
        typeParent[typeCount] = parent;
        return typeCount;
    }

    public int value() {
        return lastValue;
    }

    public int error() {
        return lastError;
    }

    public int datum() {
        return lastDatum;
    }

    public int place() {
        return lastPlace;
    }

    public int beats() {
        return beatsUsed;
    }

    public int output(int k) {
        if (k == -1) {
            return printedCount;
        }
        return within(k, KEPT_OUTPUT) && k < printedCount ? printed[k] : 0;
    }

    public long special(int k) {
        if (!isSpecial(k) || !specialHas[k - LOCALS]) {
            return NO_VALUE;
        }
        return specialValue[k - LOCALS];
    }

    public int cell(int a, int i) {
        return within(a, ARRAYS) && within(i, ELEMENTS) ? elements[a * ELEMENTS + i] : 0;
    }

    // ---- running ----

    public int run() {
        if (!isComplete()) {
            return INCOMPLETE;
        }
        startRun();
        for (int i = 0; i < MOST_STEPS && mode != DONE; i++) {
            step();
        }
        // Only a run out of fuel leaves frames here: their bindings end, their clean-ups do not run.
        for (int i = 0; i < MOST_FRAMES && frameCount > 0; i++) {
            popFrame();
        }
        emptyForm();
        return lastStatus;
    }

    private void startRun() {
        for (int i = 0; i < LOCALS; i++) {
            locals[i] = 0;
        }
        printedCount = 0;
        beatsUsed = 0;
        lastStatus = FUEL;
        lastValue = 0;
        lastError = 0;
        lastDatum = 0;
        lastPlace = NOWHERE;
        frameCount = 0;
        calls = 0;
        inForce = NOWHERE;
        currentNode = FORM_BASE;
        currentEnv = 0;
        mode = BEGINNING;
    }

    private void step() {
        switch (mode) {
            case BEGINNING:
                beginNode();
                break;
            case PROCEEDING:
                proceed();
                break;
            case APPLYING:
                apply();
                break;
            case FINISHING:
                popFrame();
                giveResult(result);
                break;
            case DELIVERING:
                takeResult();
                break;
            case SEARCHING:
                searchClause();
                break;
            default:
                leaveFrame();
                break;
        }
    }

    private int topFrame() {
        return (frameCount - 1) * FRAME_WIDTH;
    }

    private boolean pushFrame(int node, int env) {
        if (frameCount >= MOST_FRAMES) {
            mode = DONE;
            return false;
        }
        frameCount++;
        int top = topFrame();
        frames[top + F_NODE] = node;
        frames[top + F_ENV] = env;
        frames[top + F_PHASE] = PARTS;
        frames[top + F_NEXT] = node + 1;
        frames[top + F_LEFT] = nodeParts[node];
        frames[top + F_FORCE] = inForce;
        frames[top + F_CALLS] = calls;
        frames[top + F_BOUND] = 0;
        return true;
    }

    // Done or left, a frame takes with it its binding, its clause in force and its call.
    private void popFrame() {
        int top = topFrame();
        int bound = frames[top + F_BOUND];
        if (bound != 0) {
            specialValue[bound - LOCALS] = frames[top + F_OLD_VALUE];
            specialHas[bound - LOCALS] = frames[top + F_OLD_HAS] != 0;
        }
        inForce = frames[top + F_FORCE];
        calls = frames[top + F_CALLS];
        frameCount--;
    }

    private void finish(int v) {
        result = v;
        mode = FINISHING;
    }

    private void giveResult(int v) {
        result = v;
        mode = DELIVERING;
        if (frameCount == 0) {
            mode = DONE;
            lastStatus = OK;
            lastValue = v;
        }
    }

    private boolean spendBeat() {
        if (beatsUsed >= fuelLimit) {
            mode = DONE;
            return false;
        }
        beatsUsed++;
        return true;
    }

    // ---- beginning a node ----

    private void beginNode() {
        int node = currentNode;
        switch (nodeOp[node]) {
            case NUMBER:
                giveResult(nodeA[node]);
                break;
            case REFERENCE:
                readVariable(node, currentEnv);
                break;
            default:
                if (pushFrame(node, currentEnv)) {
                    beginList(node);
                }
                break;
        }
    }

    private void readVariable(int node, int env) {
        int v = nodeA[node];
        if (v < LOCALS) {
            giveResult(locals[env * LOCALS + v]);
        } else if (specialHas[v - LOCALS]) {
            giveResult(specialValue[v - LOCALS]);
        } else if (pushFrame(node, env)) {
            int top = topFrame();
            raise(top, UNBOUND_TYPE, v);
        }
    }

    private void beginList(int node) {
        int top = topFrame();
        mode = PROCEEDING;
        switch (nodeOp[node]) {
            case SEQ:
            case BLOCK:
                enterBody(top);
                break;
            case WHILE:
                beginRound(top);
                break;
            case HANDLE:
            case CASE:
                skipPart(top);
                enterBody(top);
                inForce = frameCount - 1;
                break;
            case RESTART:
                skipPart(top);
                enterBody(top);
                break;
            default:
                break;
        }
    }

    // A BODY without parts has the value 0.
    private void enterBody(int top) {
        frames[top + F_PHASE] = BODY;
        result = 0;
    }

    private void skipPart(int top) {
        int part = frames[top + F_NEXT];
        frames[top + F_NEXT] = part + nodeSize[part];
        frames[top + F_LEFT]--;
    }

    private void beginRound(int top) {
        if (spendBeat()) {
            int node = frames[top + F_NODE];
            frames[top + F_PHASE] = PARTS;
            frames[top + F_NEXT] = node + 1;
            frames[top + F_LEFT] = nodeParts[node];
            mode = PROCEEDING;
        }
    }

    // ---- going on with a list ----

    private void proceed() {
        int top = topFrame();
        if (frames[top + F_LEFT] > 0) {
            currentNode = frames[top + F_NEXT];
            currentEnv = frames[top + F_ENV];
            skipPart(top);
            mode = BEGINNING;
            return;
        }
        switch (frames[top + F_PHASE]) {
            case PARTS:
                mode = APPLYING;
                break;
            case BODY:
                endBody(top);
                break;
            case CLEAN_UP:
                finish(frames[top + F_FIRST]);
                break;
            case LEAVING:
                takeUpExit(top);
                break;
            default:
                finish(result);
                break;
        }
    }

    private void endBody(int top) {
        int node = frames[top + F_NODE];
        if (nodeOp[node] == WHILE) {
            beginRound(top);
        } else {
            finish(result);
        }
    }

    private void takeResult() {
        int top = topFrame();
        mode = PROCEEDING;
        switch (frames[top + F_PHASE]) {
            case PARTS:
                takePart(top);
                break;
            case SIGNALLING:
                mode = SEARCHING;
                break;
            default:
                break;
        }
    }

    private void takePart(int top) {
        int node = frames[top + F_NODE];
        int at = nodeParts[node] - frames[top + F_LEFT] - 1;
        if (within(at, KEPT_PARTS)) {
            frames[top + F_FIRST + at] = result;
        }
        switch (nodeOp[node]) {
            case IF:
                chooseBranch(top);
                break;
            case WHILE:
                if (result == 0) {
                    finish(0);
                } else {
                    enterBody(top);
                }
                break;
            case BIND:
                bindSpecial(top, nodeA[node], result);
                enterBody(top);
                break;
            case CATCH:
                enterBody(top);
                break;
            case PROTECT:
                frames[top + F_PHASE] = CLEAN_UP;
                break;
            default:
                break;
        }
    }

    private void chooseBranch(int top) {
        if (result == 0) {
            skipPart(top);
        }
        frames[top + F_LEFT] = 1;
        frames[top + F_PHASE] = BODY;
    }

    // ---- a list whose parts are all evaluated ----

    private void apply() {
        int top = topFrame();
        int node = frames[top + F_NODE];
        int first = frames[top + F_FIRST];
        int second = frames[top + F_SECOND];
        switch (nodeOp[node]) {
            case ADD:
                finish(first + second);
                break;
            case SUB:
                finish(first - second);
                break;
            case MUL:
                finish(first * second);
                break;
            case DIV:
                divide(top, first, second);
                break;
            case LESS:
                finish(first < second ? 1 : 0);
                break;
            case SAME:
                finish(first == second ? 1 : 0);
                break;
            case AREF:
                addToElement(top, nodeA[node], first, 0);
                break;
            case INCA:
                addToElement(top, nodeA[node], first, second);
                break;
            case SIGNAL:
            case ERROR:
                raise(top, nodeA[node], first);
                break;
            case CALL:
                callFunction(top, node);
                break;
            default:
                applyOther(top, node, first, second);
                break;
        }
    }

    private void applyOther(int top, int node, int first, int second) {
        int a = nodeA[node];
        switch (nodeOp[node]) {
            case SET:
                setVariable(top, a, first);
                finish(first);
                break;
            case RETURN:
                returnFrom(top, node - nodeB[node], first);
                break;
            case THROW:
                throwTo(top, first, second);
                break;
            case INVOKE:
                invokeRestart(top, a, first);
                break;
            case PRINT:
                print(first);
                finish(first);
                break;
            case BOUND:
                finish(specialHas[a - LOCALS] ? 1 : 0);
                break;
            default:
                finish(0);
                break;
        }
    }

    private void divide(int top, int first, int second) {
        if (second == 0) {
            raise(top, ARITH_TYPE, first);
        } else {
            finish(first / second);
        }
    }

    private void addToElement(int top, int array, int index, int amount) {
        if (!within(index, ELEMENTS)) {
            raise(top, INDEX_TYPE, index);
            return;
        }
        int at = array * ELEMENTS + index;
        int old = elements[at];
        elements[at] = keptBits(array, old + amount);
        finish(old);
    }

    private static int keptBits(int array, int sum) {
        switch (array) {
            case 0:
                return sum & 1;
            case 1:
                return (byte) sum;
            case 2:
                return (short) sum;
            default:
                return sum & 0xFFFF;
        }
    }

    private void print(int v) {
        if (printedCount < KEPT_OUTPUT) {
            printed[printedCount] = v;
        }
        printedCount++;
    }

    private void setVariable(int top, int v, int to) {
        if (v < LOCALS) {
            locals[frames[top + F_ENV] * LOCALS + v] = to;
        } else {
            specialValue[v - LOCALS] = to;
            specialHas[v - LOCALS] = true;
        }
    }

    private void callFunction(int top, int node) {
        int f = nodeA[node];
        int count = nodeParts[node];
        if (slotSize[f] == 0) {
            raise(top, UNDEFINED_TYPE, f);
        } else if (slotParams[f] != count) {
            raise(top, ARGUMENTS_TYPE, count);
        } else if (calls >= depthLimit) {
            raise(top, DEPTH_TYPE, calls);
        } else if (spendBeat()) {
            enterFunction(top, f, count);
        }
    }

    private void enterFunction(int top, int f, int count) {
        calls++;
        for (int i = 0; i < LOCALS; i++) {
            locals[calls * LOCALS + i] = i < count ? frames[top + F_FIRST + i] : 0;
        }
        frames[top + F_PHASE] = CALLED;
        currentNode = f * FORM_NODES;
        currentEnv = calls;
        mode = BEGINNING;
    }

    // ---- bindings ----

    private void bindSpecial(int top, int v, int to) {
        frames[top + F_BOUND] = v;
        frames[top + F_OLD_VALUE] = specialValue[v - LOCALS];
        frames[top + F_OLD_HAS] = specialHas[v - LOCALS] ? 1 : 0;
        specialValue[v - LOCALS] = to;
        specialHas[v - LOCALS] = true;
    }

    // Makes the frame evaluate the clause of its HANDLE, CASE or RESTART with b set or bound.
    private void enterClause(int top, int phase, int v) {
        int node = frames[top + F_NODE];
        int b = nodeB[node];
        if (isSpecial(b)) {
            bindSpecial(top, b, v);
        } else {
            setVariable(top, b, v);
        }
        frames[top + F_PHASE] = phase;
        frames[top + F_NEXT] = node + 1;
        frames[top + F_LEFT] = 1;
        mode = PROCEEDING;
    }

    // ---- signalling ----

    private void raise(int top, int t, int about) {
        frames[top + F_PHASE] = SIGNALLING;
        frames[top + F_TYPE] = t;
        frames[top + F_DATUM] = about;
        frames[top + F_SEARCH] = inForce;
        mode = SEARCHING;
    }

    private void searchClause() {
        int top = topFrame();
        int at = frames[top + F_SEARCH];
        for (int i = 0; i < MOST_FRAMES && at != NOWHERE; i++) {
            int owner = at * FRAME_WIDTH;
            int node = frames[owner + F_NODE];
            if (isA(frames[top + F_TYPE], nodeA[node])) {
                takeClause(top, at);
                return;
            }
            at = frames[owner + F_FORCE];
        }
        endSearch(top);
    }

    private boolean isA(int t, int ancestor) {
        int up = t;
        for (int i = 0; i < TYPE_CELLS && up > ancestor; i++) {
            up = typeParent[up];
        }
        return up == ancestor;
    }

    private void takeClause(int top, int at) {
        int owner = at * FRAME_WIDTH;
        int node = frames[owner + F_NODE];
        int about = frames[top + F_DATUM];
        if (nodeOp[node] == CASE) {
            leaveTo(at, about);
            return;
        }
        frames[top + F_SEARCH] = frames[owner + F_FORCE];
        if (spendBeat() && pushFrame(node, frames[owner + F_ENV])) {
            inForce = frames[owner + F_FORCE];
            int clause = topFrame();
            enterClause(clause, HANDLING, about);
        }
    }

    private void endSearch(int top) {
        int node = frames[top + F_NODE];
        if (nodeOp[node] == SIGNAL) {
            finish(0);
            return;
        }
        exitType = frames[top + F_TYPE];
        exitPlace = placeOf(node);
        leaveTo(NOWHERE, frames[top + F_DATUM]);
    }

    private static int placeOf(int node) {
        int slot = node / FORM_NODES;
        int number = node % FORM_NODES;
        return slot == FORM_SLOT ? number : number + 100 * (1 + slot);
    }

    // ---- exits ----

    private void leaveTo(int target, int v) {
        exitTarget = target;
        exitValue = v;
        mode = EXITING;
    }

    private void returnFrom(int top, int block, int v) {
        int env = frames[top + F_ENV];
        int target = NOWHERE;
        for (int i = frameCount - 1; i >= 0 && target == NOWHERE; i--) {
            int at = i * FRAME_WIDTH;
            if (frames[at + F_NODE] == block && frames[at + F_ENV] == env) {
                target = i;
            }
        }
        leaveTo(target, v);
    }

    private void throwTo(int top, int tag, int v) {
        for (int i = frameCount - 1; i >= 0; i--) {
            int at = i * FRAME_WIDTH;
            if (isInBody(at, CATCH) && frames[at + F_FIRST] == tag) {
                leaveTo(i, v);
                return;
            }
        }
        raise(top, CONTROL_TYPE, tag);
    }

    private void invokeRestart(int top, int label, int v) {
        for (int i = frameCount - 1; i >= 0; i--) {
            int at = i * FRAME_WIDTH;
            if (isInBody(at, RESTART) && nodeA[frames[at + F_NODE]] == label) {
                leaveTo(i, v);
                return;
            }
        }
        raise(top, CONTROL_TYPE, v);
    }

    private boolean isInBody(int at, int op) {
        return frames[at + F_PHASE] == BODY && nodeOp[frames[at + F_NODE]] == op;
    }

    private void leaveFrame() {
        if (frameCount == 0) {
            endUnhandled();
            return;
        }
        int top = topFrame();
        if (frameCount - 1 == exitTarget) {
            arrive(top);
        } else if (frames[top + F_PHASE] == PARTS && nodeOp[frames[top + F_NODE]] == PROTECT) {
            holdExit(top);
        } else {
            popFrame();
        }
    }

    private void endUnhandled() {
        mode = DONE;
        lastStatus = UNHANDLED;
        lastError = exitType;
        lastDatum = exitValue;
        lastPlace = exitPlace;
    }

    private void arrive(int top) {
        int op = nodeOp[frames[top + F_NODE]];
        if (op == CASE || op == RESTART) {
            // No longer in progress, a CASE must not handle what its own clause signals.
            inForce = frames[top + F_FORCE];
            enterClause(top, CLAUSE, exitValue);
        } else {
            finish(exitValue);
        }
    }

    // The clean-up may make and end exits of its own, so this one waits in the PROTECT's frame.
    private void holdExit(int top) {
        frames[top + F_PHASE] = LEAVING;
        frames[top + F_TARGET] = exitTarget;
        frames[top + F_DATUM] = exitValue;
        frames[top + F_TYPE] = exitType;
        frames[top + F_PLACE] = exitPlace;
        mode = PROCEEDING;
    }

    private void takeUpExit(int top) {
        exitType = frames[top + F_TYPE];
        exitPlace = frames[top + F_PLACE];
        leaveTo(frames[top + F_TARGET], frames[top + F_DATUM]);
    }
}
