import java.lang.reflect.Constructor;
import java.lang.reflect.Field;
import java.lang.reflect.Method;
import java.lang.reflect.Modifier;
import java.util.Arrays;
import java.util.Set;
import java.util.TreeSet;

/** The class shows the document's face and nothing else. */
public final class FaceTest {
    private static final String[] FACE = {
        "int feature(int,int)", "int group(int,int,int)", "int formula(int,int,int)",
        "int attribute(int,int,int)", "int choose(int,boolean)", "int solve()",
        "boolean chosen(int)", "int why(int)", "long count(long)", "int forces(int,int)",
        "int differ(int,int)", "int level(int) throws java.lang.ArrayIndexOutOfBoundsException",
    };

    public static void main(String[] args) {
        Check check = new Check("face");
        Class<?> face = FeatureSolve.class;
        check.due("public and final", face.getModifiers(), Modifier.PUBLIC | Modifier.FINAL);
        methods(check, face);
        for (Constructor<?> c : face.getDeclaredConstructors()) {
            check.due("constructor's inputs", c.getParameterCount(), 0);
            check.due("constructor public", Modifier.isPublic(c.getModifiers()), true);
        }
        for (Field f : face.getDeclaredFields()) {
            check.due(f + " private", Modifier.isPrivate(f.getModifiers()), true);
        }
        for (Class<?> inside : face.getDeclaredClasses()) {
            check.due(inside + " static", Modifier.isStatic(inside.getModifiers()), true);
            check.due(inside + " not shown",
                Modifier.isPublic(inside.getModifiers()) || Modifier.isProtected(inside.getModifiers()), false);
        }
        check.end();
    }

    private static void methods(Check check, Class<?> face) {
        Set<String> due = new TreeSet<>(Arrays.asList(FACE));
        Set<String> names = new TreeSet<>();
        for (String method : FACE) {
            names.add(method.substring(method.indexOf(' ') + 1, method.indexOf('(')));
        }
        Set<String> got = new TreeSet<>();
        for (Method m : face.getDeclaredMethods()) {
            if (Modifier.isPrivate(m.getModifiers())) {
                check.due(m + " bears a name of the face", names.contains(m.getName()), false);
            } else {
                check.due(m + " public", Modifier.isPublic(m.getModifiers()), true);
                got.add(m.toGenericString().replace("public ", "").replace("FeatureSolve.", ""));
            }
        }
        if (!got.equals(due)) {
            check.due("the methods are " + got + ", due are " + due + ":", 0, 1);
        }
    }
}
