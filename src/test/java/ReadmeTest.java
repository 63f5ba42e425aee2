import java.io.ByteArrayOutputStream;
import java.io.File;
import java.io.IOException;
import java.io.PrintStream;
import java.lang.reflect.Method;
import java.lang.reflect.Modifier;
import java.net.URL;
import java.net.URLClassLoader;
import java.nio.file.Files;
import java.nio.file.Path;
import java.util.Arrays;
import java.util.Set;
import java.util.TreeSet;
import java.util.regex.Matcher;
import java.util.regex.Pattern;
import java.util.stream.Collectors;
import java.util.stream.Stream;
import javax.tools.ToolProvider;

/** What README.md says is so: its example prints what stands there, its calls and its tests are those that are there. */
public final class ReadmeTest {
    private static String readme = "";

    public static void main(String[] args) throws IOException, ReflectiveOperationException {
        readme = Files.readString(Path.of("README.md"));
        exampleKeepsToTheCalls();
        examplePrintsWhatIsSaid();
        callsAreTheFace();
        testsAreThere();
        Checks.finish("ReadmeTest");
    }

    private static void due(String what, Object got, Object want) {
        Checks.holds(what + " is\n" + got + "\ndue is\n" + want + "\nthat they are the same", got.equals(want));
    }

    /** The first block of a kind. */
    private static String block(String kind) {
        Matcher matcher = Pattern.compile("(?s)```" + kind + "\n(.*?)```").matcher(readme);
        return matcher.find() ? matcher.group(1) : "";
    }

    /** It shows how an object is used, so it may not use one for more than 512 calls. */
    private static void exampleKeepsToTheCalls() {
        long events = block("text").lines().filter(line -> line.startsWith("tick ")).count();
        Checks.holds("the example has events", events > 0);
        Checks.holds("the example makes at most 512 calls", 4 + 3 * events + 1 + 4 <= Net.MOST_CALLS);
    }

    private static void examplePrintsWhatIsSaid() throws IOException, ReflectiveOperationException {
        Path directory = Files.createTempDirectory("example");
        try {
            due("what the example prints", run(directory, block("java")), block("text"));
        } finally {
            for (String name : new String[] {"Example.java", "Example.class"}) {
                Files.deleteIfExists(directory.resolve(name));
            }
            Files.delete(directory);
        }
    }

    private static String run(Path directory, String text) throws IOException, ReflectiveOperationException {
        Path file = Files.writeString(directory.resolve("Example.java"), text);
        int failed = ToolProvider.getSystemJavaCompiler().run(null, null, null, "-d", directory.toString(),
                "-cp", System.getProperty("java.class.path"), file.toString());
        if (failed != 0) {
            return "";
        }
        PrintStream before = System.out;
        ByteArrayOutputStream printed = new ByteArrayOutputStream();
        // Without a parent, as an older Example may be where the tests are.
        try (URLClassLoader loader = new URLClassLoader(places(directory), null)) {
            System.setOut(new PrintStream(printed));
            loader.loadClass("Example").getMethod("main", String[].class).invoke(null, (Object) new String[0]);
        } finally {
            System.out.flush();
            System.setOut(before);
        }
        return printed.toString().replace(System.lineSeparator(), "\n");
    }

    private static URL[] places(Path directory) throws IOException {
        String[] others = System.getProperty("java.class.path").split(File.pathSeparator);
        URL[] places = new URL[1 + others.length];
        places[0] = directory.toUri().toURL();
        for (int i = 0; i < others.length; i++) {
            places[1 + i] = Path.of(others[i]).toUri().toURL();
        }
        return places;
    }

    private static void callsAreTheFace() {
        Set<String> face = new TreeSet<>();
        for (Method method : DeficitNet.class.getDeclaredMethods()) {
            if (Modifier.isPublic(method.getModifiers())) {
                String parameters = Arrays.stream(method.getParameterTypes()).map(Class::getName)
                        .collect(Collectors.joining(", "));
                face.add(method.getReturnType() + " " + method.getName() + "(" + parameters + ")");
            }
        }
        Set<String> said = new TreeSet<>();
        Matcher rows = Pattern.compile("(?m)^\\| `(\\w+ \\w+)\\((.*?)\\)` \\|").matcher(readme);
        while (rows.find()) {
            said.add(rows.group(1) + "(" + rows.group(2).replaceAll("(\\w+) \\w+", "$1") + ")");
        }
        due("the calls", said, face);
    }

    private static void testsAreThere() throws IOException {
        Set<String> there = new TreeSet<>();
        try (Stream<Path> files = Files.list(Path.of("src/test/java"))) {
            files.map(file -> file.getFileName().toString()).filter(name -> name.endsWith("Test.java"))
                    .forEach(name -> there.add(name.replace(".java", "")));
        }
        Set<String> said = new TreeSet<>();
        Matcher names = Pattern.compile("`(\\w+Test)`").matcher(readme);
        while (names.find()) {
            said.add(names.group(1));
        }
        due("the tests", said, there);
    }
}
