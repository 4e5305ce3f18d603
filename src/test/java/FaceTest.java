import java.lang.reflect.Constructor;
import java.lang.reflect.Field;
import java.lang.reflect.Method;
import java.lang.reflect.Modifier;
import java.util.Set;
import java.util.TreeSet;

/** The public face is the document's, and nothing else of the class can be seen. */
public final class FaceTest {
    private static final String INDEX = " throws java.lang.ArrayIndexOutOfBoundsException";
    private static final String ARGUMENT = "java.lang.IllegalArgumentException";

    public static void main(String[] args) {
        Check check = new Check("The public face");
        Set<String> want = new TreeSet<>(Set.of(
            "public LoopRegions(int,int)",
            "public int LoopRegions.size()",
            "public int LoopRegions.end(int,boolean)" + INDEX,
            "public boolean LoopRegions.edge(int,boolean)" + INDEX,
            "public boolean LoopRegions.duty(int,int)" + INDEX + "," + ARGUMENT,
            "public boolean LoopRegions.shade(int,boolean)" + INDEX,
            "public void LoopRegions.told(int) throws " + ARGUMENT,
            "public int LoopRegions.run()",
            "public boolean LoopRegions.wrong()",
            "public int LoopRegions.step(int,int) throws java.lang.IndexOutOfBoundsException",
            "public int LoopRegions.steps()",
            "public int LoopRegions.is(int)" + INDEX,
            "public int LoopRegions.cell(int,int)" + INDEX,
            "public int LoopRegions.reason(int)" + INDEX,
            "public int LoopRegions.mark()",
            "public boolean LoopRegions.back(int)"));
        Set<String> got = new TreeSet<>();
        Set<String> names = new TreeSet<>();
        for (Constructor<?> c : LoopRegions.class.getDeclaredConstructors()) {
            got.add(c.toString());
        }
        for (Method m : LoopRegions.class.getDeclaredMethods()) {
            if (Modifier.isPublic(m.getModifiers())) {
                got.add(m.toString());
                names.add(m.getName());
            }
        }
        check.due("the face", got, want);
        for (Method m : LoopRegions.class.getDeclaredMethods()) {
            if (!Modifier.isPublic(m.getModifiers()) && !m.isSynthetic()) {
                check.due("private: " + m, Modifier.isPrivate(m.getModifiers()), true);
                check.due("bears a public one's name: " + m, names.contains(m.getName()), false);
            }
        }
        for (Field f : LoopRegions.class.getDeclaredFields()) {
            check.due("private: " + f, Modifier.isPrivate(f.getModifiers()), true);
            check.due("final or no static: " + f,
                Modifier.isFinal(f.getModifiers()) || !Modifier.isStatic(f.getModifiers()), true);
        }
        for (Class<?> c : LoopRegions.class.getDeclaredClasses()) {
            check.due("static: " + c, Modifier.isStatic(c.getModifiers()), true);
        }
        check.due("the class is public and final",
            Modifier.toString(LoopRegions.class.getModifiers()), "public final");
        check.end();
    }
}
