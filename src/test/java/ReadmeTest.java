import java.io.IOException;
import java.lang.reflect.Method;
import java.lang.reflect.Modifier;
import java.net.URL;
import java.net.URLClassLoader;
import java.nio.file.Files;
import java.nio.file.Path;
import java.util.ArrayList;
import java.util.List;
import java.util.regex.Matcher;
import java.util.regex.Pattern;
import javax.tools.ToolProvider;

/** The examples of README.md, as they stand there: what each call answers is what its comment says. */
public final class ReadmeTest {
    private static final Pattern CALL = Pattern.compile("(?:int (\\w+) = )?(x\\.(\\w+)\\(.*\\));(.*)");
    private static final Pattern ANSWER = Pattern.compile("\\s*// (-?\\d+|true|false)(: .*)?");
    private static final int EXAMPLES = 4;
    private static int wrong = 0;
    private static int asked = 0;

    /** Called by the examples. */
    public static void due(String call, Object got, Object want) {
        asked++;
        if (!got.toString().equals(want.toString())) {
            tell(call + " answered " + got + ", README.md says " + want);
        }
    }

    private static void tell(String text) {
        wrong++;
        System.out.println(text);
    }

    private static List<List<String>> examples() throws IOException {
        List<List<String>> examples = new ArrayList<>();
        boolean inside = false;
        for (String line : Files.readAllLines(Path.of("README.md"))) {
            if (line.startsWith("```")) {
                inside = line.equals("```java");
                if (inside) {
                    examples.add(new ArrayList<>());
                }
            } else if (inside) {
                examples.get(examples.size() - 1).add(line);
            }
        }
        return examples;
    }

    /** A line of an example, and behind it what compares the answer with the comment. */
    private static String compared(String line) {
        Matcher call = CALL.matcher(line);
        if (!call.matches()) {
            return line;
        }
        Matcher answer = ANSWER.matcher(call.group(4));
        if (!answer.matches()) {
            if (!call.group(3).equals("clear")) {
                tell("no answer stands behind: " + line);
            }
            return line;
        }
        if (call.group(1) != null) {
            return line + System.lineSeparator() + dueLine(call.group(2), call.group(1), answer.group(1));
        }
        return dueLine(call.group(2), call.group(2), answer.group(1));
    }

    private static String dueLine(String call, String got, String want) {
        return "ReadmeTest.due(\"" + call + "\", " + got + ", " + want + ");";
    }

    private static void run(int number, List<String> lines) throws Exception {
        Path folder = Files.createTempDirectory("readme");
        Path source = folder.resolve("Example.java");
        List<String> text = new ArrayList<>();
        text.add("public final class Example { public static void run() {");
        for (String line : lines) {
            text.add(compared(line));
        }
        text.add("} }");
        Files.write(source, text);
        int failed = ToolProvider.getSystemJavaCompiler().run(null, null, null, "--release", "17",
            "-cp", System.getProperty("java.class.path"), "-d", folder.toString(), source.toString());
        if (failed != 0) {
            tell("example " + number + " of README.md is no Java");
            return;
        }
        try (URLClassLoader loader = new URLClassLoader(new URL[] {folder.toUri().toURL()})) {
            Method example = loader.loadClass("Example").getMethod("run");
            example.invoke(null);
        }
        Files.delete(folder.resolve("Example.class"));
        Files.delete(source);
        Files.delete(folder);
    }

    /** Each method of the face is in an example, so that each is told of. */
    private static void allAreThere(List<List<String>> examples) {
        for (Method method : CostFlow.class.getDeclaredMethods()) {
            boolean there = examples.toString().contains("x." + method.getName() + "(");
            if (Modifier.isPublic(method.getModifiers()) && !there) {
                tell(method.getName() + " is in no example");
            }
        }
    }

    public static void main(String[] args) throws Exception {
        List<List<String>> examples = examples();
        if (examples.size() != EXAMPLES) {
            tell("README.md has " + examples.size() + " examples, due are " + EXAMPLES);
        }
        for (int k = 0; k < examples.size(); k++) {
            run(k, examples.get(k));
        }
        allAreThere(examples);
        System.out.println(wrong == 0 ? asked + " answers are as README.md says" : wrong + " are not as README.md says");
        if (wrong != 0) {
            System.exit(1);
        }
    }
}
