import java.io.IOException;
import java.lang.reflect.Method;
import java.lang.reflect.Modifier;
import java.net.URL;
import java.net.URLClassLoader;
import java.nio.file.Files;
import java.nio.file.Path;
import java.util.ArrayList;
import java.util.List;
import java.util.concurrent.Callable;
import java.util.regex.Matcher;
import java.util.regex.Pattern;
import javax.tools.ToolProvider;

/**
 * The example of README.md compiles, calls each method of the face, and answers what stands
 * beside its calls. The working folder is the project's.
 */
public final class ReadmeTest {

    private static final Pattern CALL =
            Pattern.compile("(desk\\..*\\));\\s+// (gives|throws) ([^:]+)(: .*)?");

    private static int looks = 0;
    private static int wrong = 0;

    public static void main(String[] args) throws Exception {
        List<String> example = example(Files.readAllLines(Path.of("README.md")));
        for (Method method : PromiseDesk.class.getDeclaredMethods()) {
            String call = "desk." + method.getName() + "(";
            if (Modifier.isPublic(method.getModifiers())
                    && example.stream().noneMatch(line -> line.contains(call))) {
                say("the example has no call " + call + "..)");
            }
        }
        Path folder = Files.createTempDirectory("readme");
        try {
            run(programOf(example), folder);
        } finally {
            remove(folder);
        }
        if (looks == 0) {
            say("the example has no answers");
        }
        if (wrong != 0) {
            System.exit(1);
        }
        System.out.println("the README's example gives its " + looks + " answers");
    }

    /** Called by the program made of the example. */
    public static void look(String text, Callable<Object> call, Object want) {
        looks++;
        Object got;
        try {
            got = call.call();
        } catch (Exception e) {
            got = e.getClass();
        }
        if (!got.equals(want)) {
            say(text + " answered " + got);
        }
    }

    private static void say(String text) {
        wrong++;
        System.out.println(text);
    }

    private static List<String> example(List<String> readme) {
        int first = readme.indexOf("```java") + 1;
        int length = readme.subList(first, readme.size()).indexOf("```");
        return readme.subList(first, first + length);
    }

    private static String programOf(List<String> example) {
        List<String> lines = new ArrayList<>();
        lines.add("public final class Example { public static void main(String[] args) {");
        for (String line : example) {
            lines.add(line.startsWith("desk.") ? lookOf(line) : line);
        }
        lines.add("} }");
        return String.join("\n", lines);
    }

    private static String lookOf(String line) {
        Matcher call = CALL.matcher(line);
        if (!call.matches()) {
            say("no answer is told in: " + line);
            return "";
        }
        String want = call.group(2).equals("gives") ? call.group(3) : call.group(3) + ".class";
        return "ReadmeTest.look(\"" + line + "\", () -> " + call.group(1) + ", " + want + ");";
    }

    private static void run(String program, Path folder) throws Exception {
        Path source = Files.writeString(folder.resolve("Example.java"), program);
        int failed = ToolProvider.getSystemJavaCompiler().run(null, null, null,
                "-cp", System.getProperty("java.class.path"), "-d", folder.toString(),
                source.toString());
        if (failed != 0) {
            say("the example does not compile");
            return;
        }
        URL[] where = {folder.toUri().toURL()};
        try (URLClassLoader loader = new URLClassLoader(where)) {
            loader.loadClass("Example").getMethod("main", String[].class)
                    .invoke(null, (Object) new String[0]);
        }
    }

    private static void remove(Path folder) throws IOException {
        for (String name : List.of("Example.java", "Example.class")) {
            Files.deleteIfExists(folder.resolve(name));
        }
        Files.delete(folder);
    }
}
