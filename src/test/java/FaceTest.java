import java.lang.reflect.Constructor;
import java.lang.reflect.Field;
import java.lang.reflect.Method;
import java.lang.reflect.Modifier;
import java.util.Set;
import java.util.TreeSet;

/** The public face: the document's constants, constructor and methods, and no other visible member. */
public final class FaceTest {
    private static final Set<String> DUE = Set.of(
        "public static final int OK", "public static final int UNHANDLED", "public static final int FUEL",
        "public static final int INCOMPLETE", "public static final int BAD", "public static final int FULL",
        "public ConditionLisp(int,int)",
        "public boolean ConditionLisp.open(int,int,int)", "public boolean ConditionLisp.num(int)",
        "public boolean ConditionLisp.ref(int)", "public boolean ConditionLisp.close()",
        "public void ConditionLisp.drop()", "public int ConditionLisp.define(int,int)",
        "public int ConditionLisp.run()", "public int ConditionLisp.type(int)",
        "public int ConditionLisp.value()", "public int ConditionLisp.error()",
        "public int ConditionLisp.datum()", "public int ConditionLisp.place()",
        "public int ConditionLisp.beats()", "public int ConditionLisp.output(int)",
        "public long ConditionLisp.special(int)", "public int ConditionLisp.cell(int,int)");

    private FaceTest() {
    }

    public static void main(String[] args) {
        Checks checks = new Checks();
        Set<String> visible = new TreeSet<>();
        Set<String> publicNames = new TreeSet<>();
        for (Method m : ConditionLisp.class.getDeclaredMethods()) {
            if (!Modifier.isPrivate(m.getModifiers())) {
                visible.add(m.toString());
                publicNames.add(m.getName());
            }
        }
        for (Constructor<?> c : ConditionLisp.class.getDeclaredConstructors()) {
            visible.add(c.toString());
        }
        checks.about("the face");
        for (Field f : ConditionLisp.class.getDeclaredFields()) {
            if (!Modifier.isPrivate(f.getModifiers())) {
                visible.add(f.toString().replace("ConditionLisp.", ""));
            }
            boolean constant = Modifier.isFinal(f.getModifiers())
                && (f.getType() == int.class || f.getType() == long.class);
            checks.yes("static field " + f.getName() + " is a constant",
                constant || !Modifier.isStatic(f.getModifiers()));
        }
        for (Method m : ConditionLisp.class.getDeclaredMethods()) {
            boolean doubled = Modifier.isPrivate(m.getModifiers()) && publicNames.contains(m.getName());
            checks.no("private " + m.getName() + " bears a public name", doubled);
        }
        for (String member : DUE) {
            checks.yes(member, visible.contains(member));
        }
        for (String member : visible) {
            checks.yes(member + " is in the document", DUE.contains(member));
        }
        checks.same("nested classes", ConditionLisp.class.getDeclaredClasses().length, 0);
        checks.yes("public final", ConditionLisp.class.toString().equals("class ConditionLisp")
            && Modifier.isPublic(ConditionLisp.class.getModifiers())
            && Modifier.isFinal(ConditionLisp.class.getModifiers()));
        checks.same("OK", ConditionLisp.OK, 0);
        checks.same("UNHANDLED", ConditionLisp.UNHANDLED, 1);
        checks.same("FUEL", ConditionLisp.FUEL, 2);
        checks.same("INCOMPLETE", ConditionLisp.INCOMPLETE, 3);
        checks.same("BAD", ConditionLisp.BAD, 4);
        checks.same("FULL", ConditionLisp.FULL, 5);
        checks.end("FaceTest");
    }
}
