import java.util.ArrayDeque;
import java.util.Arrays;
import java.util.List;

/**
 * Builds forms from text, such as "(handle 2 v0 (invoke 0 v0) (call 1 7))": a list is its kind's
 * name, its operands and its parts; a number is a number part; v3 is a reference (as an operand: 3).
 */
final class Forms {
    private static final List<String> NAMES = Arrays.asList(
        "add", "sub", "mul", "div", "less", "same", "if", "seq", "set", "bind", "while", "block",
        "return", "catch", "throw", "protect", "handle", "case", "restart", "invoke", "signal",
        "error", "print", "call", "aref", "inca", "bound");
    private static final List<String> ONE_OPERAND = Arrays.asList(
        "set", "bind", "block", "return", "invoke", "signal", "error", "call", "aref", "inca", "bound");
    private static final List<String> TWO_OPERANDS = Arrays.asList("handle", "case", "restart");

    private Forms() {
    }

    /** Answers how many calls it took. */
    static int build(ConditionLisp x, String text) {
        int calls = 0;
        ArrayDeque<String> words = new ArrayDeque<>(
            Arrays.asList(text.replace("(", " ( ").replace(")", " ) ").trim().split("\\s+")));
        while (!words.isEmpty()) {
            if (!addWord(x, words)) {
                throw new IllegalStateException("refused in " + text + ", before " + words);
            }
            calls++;
        }
        return calls;
    }

    static int run(ConditionLisp x, String text) {
        build(x, text);
        return x.run();
    }

    static int define(ConditionLisp x, int f, int params, String text) {
        build(x, text);
        return x.define(f, params);
    }

    private static boolean addWord(ConditionLisp x, ArrayDeque<String> words) {
        String word = words.pop();
        if (word.equals("(")) {
            String name = words.pop();
            int op = NAMES.indexOf(name);
            boolean two = TWO_OPERANDS.contains(name);
            int a = two || ONE_OPERAND.contains(name) ? operand(words.pop()) : 0;
            int b = two ? operand(words.pop()) : 0;
            return x.open(op, a, b);
        }
        if (word.equals(")")) {
            return x.close();
        }
        return word.startsWith("v") ? x.ref(operand(word)) : x.num(operand(word));
    }

    private static int operand(String word) {
        return Integer.parseInt(word.startsWith("v") ? word.substring(1) : word);
    }
}
