import java.io.File;
import java.io.IOException;
import java.lang.reflect.Method;
import java.lang.reflect.Modifier;
import java.net.MalformedURLException;
import java.net.URL;
import java.net.URLClassLoader;
import java.nio.file.Files;
import java.nio.file.Path;
import java.util.ArrayList;
import java.util.List;
import java.util.regex.Matcher;
import java.util.regex.Pattern;
import javax.tools.ToolProvider;

/**
 * Every call that README.md shows gives the answer that stands behind it, and every method of the
 * class is shown. The examples are turned into a class of checks, which is compiled and run.
 */
public final class ReadmeTest extends Checks {
    private static final String FIRST_LINE = "LandRegister register = new LandRegister();";
    private static final Pattern CALL =
            Pattern.compile("(register\\.\\w+\\(.*\\)); +// (throws )?([^:]+): .*");

    private static List<List<String>> examples() throws IOException {
        List<List<String>> examples = new ArrayList<>();
        List<String> open = null;
        for (String line : Files.readAllLines(Path.of("README.md"))) {
            if (line.equals("```java")) {
                open = new ArrayList<>();
                examples.add(open);
            } else if (line.equals("```")) {
                open = null;
            } else if (open != null) {
                open.add(line);
            }
        }
        return examples;
    }

    /** The statement that makes the call of the line and compares; empty for a line of another form. */
    private static String statement(String line) {
        Matcher parts = CALL.matcher(line);
        if (!parts.matches()) {
            notDue("no call with an answer behind it: " + line);
            return "";
        }
        String call = parts.group(1);
        String named = "\"" + call + "\", ";
        if (parts.group(2) != null) {
            return "refused(" + named + parts.group(3) + ".class, () -> " + call + ");";
        }
        return "due(" + named + "answer(() -> " + call + "), answer(() -> " + parts.group(3) + "));";
    }

    private static String checksOf(List<List<String>> examples) {
        StringBuilder text = new StringBuilder("public final class ReadmeCalls extends Checks {\n"
                + "public static void main(String[] args) {\n");
        for (int e = 0; e < examples.size(); e++) {
            List<String> lines = examples.get(e);
            due("first line of example " + e, lines.isEmpty() ? "" : lines.get(0), FIRST_LINE);
            text.append("check(\"README.md, example ").append(e).append("\", () -> {\n");
            text.append(FIRST_LINE).append('\n');
            for (String line : lines.subList(Math.min(1, lines.size()), lines.size())) {
                text.append(statement(line)).append('\n');
            }
            text.append("});\n");
        }
        return text.append("end(\"the answers in README.md are as due\");\n}\n}\n").toString();
    }

    private static void everyMethodIsShown(List<List<String>> examples) {
        for (Method method : LandRegister.class.getDeclaredMethods()) {
            String call = "register." + method.getName() + "(";
            boolean shown = examples.stream().flatMap(List::stream).anyMatch(line -> line.startsWith(call));
            if (Modifier.isPublic(method.getModifiers()) && !shown) {
                notDue(method.getName() + " is not shown");
            }
        }
    }

    private static URL urlOf(String path) {
        try {
            return new File(path).toURI().toURL();
        } catch (MalformedURLException e) {
            throw new IllegalStateException(e);
        }
    }

    private static void compileAndRun(String checks, Path folder) throws IOException, ReflectiveOperationException {
        String classes = System.getProperty("java.class.path");
        Path source = Files.writeString(folder.resolve("ReadmeCalls.java"), checks);
        int code = ToolProvider.getSystemJavaCompiler().run(null, null, null, "--release", "17",
                "-proc:none", "-cp", classes, "-d", folder.toString(), source.toString());
        if (code != 0) {
            notDue("the examples do not compile");
            return;
        }
        // One loader for all: what Checks keeps to its package is not seen from another loader.
        URL[] all = {urlOf(folder.toString()), urlOf(classes)};
        try (URLClassLoader loader = new URLClassLoader(all, ClassLoader.getPlatformClassLoader())) {
            loader.loadClass("ReadmeCalls").getMethod("main", String[].class).invoke(null, (Object) new String[0]);
        }
    }

    /** Also when the checks end the program with exit code 1. */
    private static void removeAtEnd(Path folder) {
        Runtime.getRuntime().addShutdownHook(new Thread(() -> {
            for (File file : folder.toFile().listFiles()) {
                file.delete();
            }
            folder.toFile().delete();
        }));
    }

    public static void main(String[] args) throws IOException, ReflectiveOperationException {
        List<List<String>> examples = examples();
        check("README.md", () -> everyMethodIsShown(examples));
        String checks = checksOf(examples);
        Path folder = Files.createTempDirectory("readme");
        removeAtEnd(folder);
        compileAndRun(checks, folder);
        end("README.md shows every method");
    }
}
