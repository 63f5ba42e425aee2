import java.io.IOException;
import java.lang.reflect.Constructor;
import java.lang.reflect.Field;
import java.lang.reflect.Method;
import java.lang.reflect.Modifier;
import java.nio.file.Files;
import java.nio.file.Path;
import java.util.Arrays;
import java.util.Set;
import java.util.TreeSet;
import java.util.regex.Matcher;
import java.util.regex.Pattern;

/** The class has the document's face and no more, and its text keeps to the words that LANGUAGE.md leaves. */
public final class FaceTest {
    private static final Set<String> FACE = Set.of(
            "int link(int, int, int, int, int)", "boolean shape(int, int, int)", "int flow(int, int, int, int)",
            "boolean tune(int, int, int, int)", "void clear()", "boolean step()", "int run(int)", "int now()",
            "long trace(int)", "int distance(int, int)", "int way(int, int)", "int waiting(int, int)",
            "int deficit(int, int)", "int onPort(int)", "int timer(int)", "int count(int, int)");
    private static final String[] RULED_OUT = {
        "\\bthrow\\b", "\\bthrows\\b", "\\btry\\b", "\\bcatch\\b", "\\bsynchronized\\b", "\\bassert\\b", "->", "::",
        "Exact\\b", "\\bstatic\\s*\\{", "\\bpackage\\b", "\\bprotected\\b", "\\bhashCode\\b", "\\btoString\\b",
        "\\bRandom\\b", "\\brandom\\b", "currentTimeMillis", "nanoTime", "\\bThread\\b"
    };

    public static void main(String[] args) throws IOException {
        members();
        words();
        Checks.finish("FaceTest");
    }

    private static void members() {
        Checks.due("NONE", DeficitNet.NONE, -1);
        Checks.holds("the class is public and final",
                Modifier.isPublic(DeficitNet.class.getModifiers()) && Modifier.isFinal(DeficitNet.class.getModifiers()));
        Set<String> seen = new TreeSet<>();
        for (Method method : DeficitNet.class.getDeclaredMethods()) {
            if (!Modifier.isPrivate(method.getModifiers())) {
                Checks.holds(method + " is public", Modifier.isPublic(method.getModifiers()));
                seen.add(signature(method));
            } else {
                Checks.holds(method + " has a name of its own", FACE.stream()
                        .noneMatch(face -> face.contains(" " + method.getName() + "(")));
            }
        }
        Checks.holds("the face is " + FACE + ", seen is " + seen, seen.equals(FACE));
        for (Field field : DeficitNet.class.getDeclaredFields()) {
            int modifiers = field.getModifiers();
            Checks.holds(field + " is private or NONE", Modifier.isPrivate(modifiers) || field.getName().equals("NONE"));
            Checks.holds(field + " is final if static", !Modifier.isStatic(modifiers) || Modifier.isFinal(modifiers));
        }
        for (Constructor<?> constructor : DeficitNet.class.getDeclaredConstructors()) {
            Checks.holds(constructor + " is the document's",
                    Modifier.isPublic(constructor.getModifiers()) && constructor.getParameterCount() == 0);
        }
        for (Class<?> inside : DeficitNet.class.getDeclaredClasses()) {
            Checks.holds(inside + " is static", Modifier.isStatic(inside.getModifiers()));
        }
    }

    private static String signature(Method method) {
        String parameters = Arrays.toString(method.getParameterTypes());
        return method.getReturnType() + " " + method.getName() + "(" + parameters.substring(1, parameters.length() - 1) + ")";
    }

    private static void words() throws IOException {
        String text = Files.readString(Path.of("src/main/java/DeficitNet.java"))
                .replaceAll("(?s)/\\*.*?\\*/", "").replaceAll("//.*", "");
        for (String word : RULED_OUT) {
            Matcher matcher = Pattern.compile(word).matcher(text);
            Checks.holds("no " + word + " in the program", !matcher.find());
        }
    }
}
