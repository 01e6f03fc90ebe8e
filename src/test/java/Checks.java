/** Counts answers that are as due and prints those that are not. */
final class Checks {
    private int right;
    private int wrong;
    private String about = "";

    void about(String text) {
        about = text;
    }

    void same(String call, long got, long due) {
        if (got == due) {
            right++;
        } else {
            wrong++;
            System.out.println(about + ": " + call + " answered " + got + ", due is " + due);
        }
    }

    void yes(String call, boolean got) {
        same(call, got ? 1 : 0, 1);
    }

    void no(String call, boolean got) {
        same(call, got ? 1 : 0, 0);
    }

    void alike(String what, String got, String due) {
        if (got.equals(due)) {
            right++;
        } else {
            wrong++;
            System.out.println(about + ": " + what + " is " + got + ", due is " + due);
        }
    }

    void end(String name) {
        System.out.println(name + ": " + right + " answers as due, " + wrong + " not");
        if (wrong != 0 || right == 0) {
            System.exit(1);
        }
    }
}
