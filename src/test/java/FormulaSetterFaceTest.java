import java.lang.reflect.Constructor;
import java.lang.reflect.Field;
import java.lang.reflect.Method;
import java.lang.reflect.Modifier;
import java.util.Set;
import java.util.TreeSet;

/** The class shows the document's face and nothing else. */
public final class FormulaSetterFaceTest {
    public static void main(String[] args) {
        Set<String> got = new TreeSet<>();
        for (Constructor<?> c : FormulaSetter.class.getDeclaredConstructors()) {
            addIfOpen(got, c.getModifiers(), c.toString());
        }
        for (Method m : FormulaSetter.class.getDeclaredMethods()) {
            addIfOpen(got, m.getModifiers(), m.toString());
        }
        for (Field f : FormulaSetter.class.getDeclaredFields()) {
            addIfOpen(got, f.getModifiers(), f.toString());
        }
        Set<String> want = new TreeSet<>(Set.of(
                "public FormulaSetter()",
                "public static final int FormulaSetter.NONE",
                "public int FormulaSetter.type(long,int)",
                "public int FormulaSetter.wipe()",
                "public int FormulaSetter.set(int) throws java.lang.IllegalArgumentException",
                "public boolean FormulaSetter.isFormula()",
                "public int FormulaSetter.pieces()",
                "public int FormulaSetter.piece(int,int) throws java.lang.IndexOutOfBoundsException",
                "public int FormulaSetter.width()",
                "public int FormulaSetter.height()",
                "public int FormulaSetter.depth()"));
        boolean right = got.equals(want) && Modifier.isFinal(FormulaSetter.class.getModifiers());
        if (!right) {
            System.out.println("the face is " + got + ", due is " + want + " of a final class");
        }
        System.out.println(right ? "1 passed, 0 failed" : "0 passed, 1 failed");
        if (!right) {
            System.exit(1);
        }
    }

    private static void addIfOpen(Set<String> all, int modifiers, String member) {
        if (!Modifier.isPrivate(modifiers)) {
            all.add(member);
        }
    }
}
