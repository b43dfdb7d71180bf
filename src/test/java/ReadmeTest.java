import java.io.IOException;
import java.lang.reflect.Method;
import java.lang.reflect.Modifier;
import java.net.URL;
import java.net.URLClassLoader;
import java.nio.file.Files;
import java.nio.file.Path;
import java.util.ArrayList;
import java.util.List;
import java.util.regex.Matcher;
import java.util.regex.Pattern;
import javax.tools.JavaCompiler;
import javax.tools.ToolProvider;

/** What README.md shows answers so: its blocks are compiled as one program, and run. */
public final class ReadmeTest {
    private static final Pattern SHOWN =
        Pattern.compile("(windows\\.\\w+\\(.*?\\)); +// (-?\\d+|NONE|UNKNOWN|OUTSIDE|STATE|FULL)(:.*)?");
    private static final String[] NAMES = {"NONE", "UNKNOWN", "OUTSIDE", "STATE", "FULL"};

    private final List<String> calls = new ArrayList<>();
    private final List<String> answers = new ArrayList<>();
    private final StringBuilder statements = new StringBuilder();

    public static void main(String[] args) throws Exception {
        ReadmeTest test = new ReadmeTest();
        test.read(Path.of(args.length > 0 ? args[0] : "README.md"));
        test.allIsShown();
        test.answersSo();
        Due.end();
    }

    private void read(Path readme) throws IOException {
        boolean shown = false;
        for (String line : Files.readAllLines(readme)) {
            if (line.startsWith("```")) {
                shown = line.equals("```java");
            } else if (shown) {
                take(line);
            }
        }
    }

    /** A call with an answer behind it is told and compared; all other lines are run as they stand. */
    private void take(String line) {
        Matcher matcher = SHOWN.matcher(line);
        if (!matcher.matches()) {
            Due.is("README.md: no answer can be read in " + line, line.contains("//") ? 1 : 0, 0);
            statements.append(line).append('\n');
            return;
        }
        statements.append("told[").append(calls.size()).append("] = ").append(matcher.group(1)).append(";\n");
        calls.add(matcher.group(1));
        answers.add(matcher.group(2));
    }

    private void allIsShown() {
        for (Method method : QuarrelWindows.class.getDeclaredMethods()) {
            if (Modifier.isPublic(method.getModifiers())) {
                String call = "windows." + method.getName() + "(";
                boolean shown = calls.stream().anyMatch(other -> other.startsWith(call));
                Due.is("README.md shows " + method.getName(), shown ? 1 : 0, 1);
            }
        }
        for (String name : NAMES) {
            Due.is("README.md shows " + name, answers.contains(name) ? 1 : 0, 1);
        }
    }

    private void answersSo() throws Exception {
        Path place = Files.createTempDirectory("shown");
        Path source = place.resolve("Shown.java");
        Path compiled = place.resolve("Shown.class");
        try {
            Files.writeString(source, program());
            if (compile(source, place)) {
                compare(run(place));
            }
        } finally {
            Files.deleteIfExists(compiled);
            Files.deleteIfExists(source);
            Files.deleteIfExists(place);
        }
    }

    private String program() {
        StringBuilder program = new StringBuilder("public final class Shown {\n");
        for (String name : NAMES) {
            program.append("private static final int ").append(name).append(" = QuarrelWindows.").append(name)
                .append(";\n");
        }
        return program.append("public static long[] told() {\nlong[] told = new long[").append(calls.size())
            .append("];\n").append(statements).append("return told;\n}\n}\n").toString();
    }

    private static boolean compile(Path source, Path place) {
        JavaCompiler compiler = ToolProvider.getSystemJavaCompiler();
        int failed = compiler.run(null, null, null, "-cp", System.getProperty("java.class.path"),
            "-d", place.toString(), source.toString());
        Due.is("what README.md shows is compiled", failed, 0);
        return failed == 0;
    }

    private static long[] run(Path place) throws Exception {
        try (URLClassLoader loader = new URLClassLoader(new URL[] {place.toUri().toURL()})) {
            return (long[]) loader.loadClass("Shown").getMethod("told").invoke(null);
        }
    }

    private void compare(long[] told) {
        for (int at = 0; at < told.length; at++) {
            Due.is("README.md: " + calls.get(at), told[at], number(answers.get(at)));
        }
    }

    private static long number(String answer) {
        switch (answer) {
            case "NONE":
                return -1;
            case "UNKNOWN":
                return -101;
            case "OUTSIDE":
                return -102;
            case "STATE":
                return -103;
            case "FULL":
                return -104;
            default:
                return Long.parseLong(answer);
        }
    }
}
