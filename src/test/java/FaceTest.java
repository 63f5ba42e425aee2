import java.lang.reflect.Constructor;
import java.lang.reflect.Field;
import java.lang.reflect.Method;
import java.lang.reflect.Modifier;
import java.util.Arrays;
import java.util.Set;
import java.util.TreeSet;

/** The class has the document's face and no more: rule 1 of LANGUAGE.md. */
public final class FaceTest {
    private static final Set<String> FACE = Set.of(
            "int link(int, int, int, int, int)", "boolean shape(int, int, int)", "int flow(int, int, int, int)",
            "boolean tune(int, int, int, int)", "void clear()", "boolean step()", "int run(int)", "int now()",
            "long trace(int)", "int distance(int, int)", "int way(int, int)", "int waiting(int, int)",
            "int deficit(int, int)", "int onPort(int)", "int timer(int)", "int count(int, int)");

    public static void main(String[] args) {
        Checks.due("modifiers of the class", DeficitNet.class.getModifiers(), Modifier.PUBLIC | Modifier.FINAL);
        methods();
        fields();
        constructors();
        classesInside();
        Checks.finish("FaceTest");
    }

    private static void methods() {
        Set<String> seen = new TreeSet<>();
        for (Method method : DeficitNet.class.getDeclaredMethods()) {
            if (Modifier.isPrivate(method.getModifiers())) {
                Checks.holds(method + " has a name of its own",
                        FACE.stream().noneMatch(face -> face.contains(" " + method.getName() + "(")));
            } else {
                Checks.due("modifiers of " + method, method.getModifiers(), Modifier.PUBLIC);
                seen.add(signature(method));
            }
        }
        Checks.holds("the face is " + FACE + ", seen is " + seen, seen.equals(FACE));
    }

    private static String signature(Method method) {
        String parameters = Arrays.toString(method.getParameterTypes());
        return method.getReturnType() + " " + method.getName() + "(" + parameters.substring(1, parameters.length() - 1) + ")";
    }

    private static void fields() {
        Checks.due("NONE", DeficitNet.NONE, -1);
        int face = 0;
        for (Field field : DeficitNet.class.getDeclaredFields()) {
            int modifiers = field.getModifiers();
            if (!Modifier.isPrivate(modifiers)) {
                face++;
                Checks.holds(field + " is NONE", field.toString().equals("public static final int DeficitNet.NONE"));
            }
        }
        Checks.due("constants of the face", face, 1);
    }

    private static void constructors() {
        Constructor<?>[] constructors = DeficitNet.class.getDeclaredConstructors();
        Checks.due("constructors", constructors.length, 1);
        Checks.due("its parameters", constructors[0].getParameterCount(), 0);
        Checks.due("its modifiers", constructors[0].getModifiers(), Modifier.PUBLIC);
    }

    private static void classesInside() {
        for (Class<?> inside : DeficitNet.class.getDeclaredClasses()) {
            int modifiers = inside.getModifiers();
            Checks.holds(inside + " is static, and not of the face",
                    Modifier.isStatic(modifiers) && !Modifier.isPublic(modifiers) && !Modifier.isProtected(modifiers));
        }
    }
}
