/** A function that offers a restart, run with a clause that takes it up and without one. */
public final class Example {
    private Example() {
    }

    public static void main(String[] args) {
        ConditionLisp x = new ConditionLisp(5, 100); // at most 5 calls in progress, 100 beats a run

        // Function 0, of one parameter: (restart 1 v1 (add v1 100) (error 2 v0))
        x.open(18, 1, 1);
        x.open(0, 0, 0);
        x.ref(1);
        x.num(100);
        x.close();
        x.open(21, 2, 0);
        x.ref(0);
        x.close();
        x.close();
        System.out.println("define " + x.define(0, 1));

        // (handle 2 v0 (invoke 1 (mul v0 2)) (call 0 7))
        x.open(16, 2, 0);
        x.open(19, 1, 0);
        x.open(2, 0, 0);
        x.ref(0);
        x.num(2);
        x.close();
        x.close();
        x.open(23, 0, 0);
        x.num(7);
        x.close();
        x.close();
        System.out.println("run " + x.run() + ", value " + x.value() + ", beats " + x.beats());

        // (call 0 7)
        x.open(23, 0, 0);
        x.num(7);
        x.close();
        System.out.println("run " + x.run() + ", error " + x.error() + ", datum " + x.datum()
            + ", place " + x.place());
    }
}
