/**
 * Whether a call changed nothing: two objects have the same past, one of them is given the call as well, and
 * both must then answer every question alike and go on alike.
 */
final class Twins {
    interface Past {
        void lead(ConditionLisp x);
    }

    interface Call {
        long on(ConditionLisp x);
    }

    private Twins() {
    }

    static long bit(boolean answer) {
        return answer ? 1 : 0;
    }

    static void unchanged(Checks checks, String text, Past past, Call call, long due) {
        for (int before = 0; before < 3; before++) {
            ConditionLisp tried = withRun(before);
            ConditionLisp spared = withRun(before);
            past.lead(tried);
            past.lead(spared);
            checks.same(text, call.on(tried), due);
            checks.alike(text + ": what can be asked after it", asked(tried), asked(spared));
            checks.alike(text + ": how the form goes on after it", goneOn(tried), goneOn(spared));
            checks.alike(text + ": what can be asked in the end", asked(tried), asked(spared));
        }
    }

    /** An object with a function, a type, global values, elements, and a run of each ending. */
    private static ConditionLisp withRun(int ending) {
        String[] endings = {"70", "(div 70 0)", "(while 1)"};
        ConditionLisp x = new ConditionLisp(3, 9);
        x.type(2);
        Forms.define(x, 2, 1, "(add v0 500)");
        Forms.run(x, "(seq (set 9 -4) (inca 1 3 200) (print (call 2 6)) " + endings[ending] + ")");
        return x;
    }

    /** The answers to all questions but those on most elements, which no refused call comes near. */
    private static String asked(ConditionLisp x) {
        StringBuilder answers = new StringBuilder();
        answers.append(x.value()).append(' ').append(x.error()).append(' ').append(x.datum()).append(' ')
            .append(x.place()).append(' ').append(x.beats());
        for (int k = -1; k < 4; k++) {
            answers.append(" o").append(x.output(k));
        }
        for (int k = 8; k < 12; k++) {
            answers.append(" s").append(x.special(k));
        }
        for (int i = 0; i < 16; i++) {
            answers.append(" c").append(x.cell(i / 4, i % 4));
        }
        return answers.toString();
    }

    /**
     * Ends the form whatever it is like, if there is room with an error whose place tells how many nodes
     * went before it, runs it, and then tries all functions and the next type.
     */
    private static String goneOn(ConditionLisp x) {
        StringBuilder answers = new StringBuilder();
        answers.append(x.open(21, 2, 0) ? 'e' : '-');
        for (int i = 0; i < 30; i++) {
            answers.append(x.close() ? 'c' : x.num(i) ? 'n' : '-');
        }
        answers.append(' ').append(x.run()).append(' ').append(x.value()).append(' ').append(x.place());
        x.drop();
        for (int f = 0; f < 6; f++) {
            answers.append(" f").append(Forms.run(x, "(case 1 0 v0 (call " + f + " 1))"))
                .append(' ').append(x.value());
        }
        return answers.append(" t").append(x.type(1)).toString();
    }
}
