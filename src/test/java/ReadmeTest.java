import java.io.File;
import java.net.URL;
import java.net.URLClassLoader;
import java.nio.file.Files;
import java.nio.file.Path;
import java.util.ArrayList;
import java.util.List;
import java.util.regex.Matcher;
import java.util.regex.Pattern;

/** The examples of README.md, together one program, answer what stands behind each call there. */
public final class ReadmeTest {
    private static final Pattern BLOCK = Pattern.compile("```java\n(.*?)```", Pattern.DOTALL);
    /** A call, perhaps one whose answer gets a name, and the number that its comment begins with. */
    private static final Pattern CALL = Pattern.compile("(?:int (\\w+) = )?(office\\.\\w+\\(.*\\)); +// (-?\\d+)\\b.*");

    private static final Check check = new Check();
    private static final StringBuilder program = new StringBuilder();
    private static final List<String> calls = new ArrayList<>();
    private static final List<Long> due = new ArrayList<>();

    public static void main(String[] args) throws Exception {
        readExamples(Files.readString(Path.of("README.md")));
        List<?> got = answers();
        check.due(0, "calls with an answer behind them", got.size(), calls.size());
        for (int i = 0; i < calls.size() && i < got.size(); i++) {
            check.due(0, calls.get(i), (Long) got.get(i), due.get(i));
        }
        check.holds(0, "there are examples", calls.size() > 40);
        check.end();
    }

    private static void readExamples(String readme) {
        program.append("public final class Examples {\n    public static java.util.List<Long> answers() {\n");
        program.append("java.util.List<Long> got = new java.util.ArrayList<>();\n");
        Matcher block = BLOCK.matcher(readme);
        while (block.find()) {
            block.group(1).lines().forEach(ReadmeTest::readLine);
        }
        program.append("return got;\n    }\n}\n");
    }

    private static void readLine(String line) {
        Matcher call = CALL.matcher(line);
        if (!call.matches()) {
            program.append(line).append('\n');
            return;
        }
        calls.add(call.group(2));
        due.add(Long.parseLong(call.group(3)));
        if (call.group(1) != null) {
            program.append("int ").append(call.group(1)).append(" = ").append(call.group(2)).append(";\n");
        }
        String answer = call.group(1) == null ? call.group(2) : call.group(1);
        program.append("got.add((long) ").append(answer).append(");\n");
    }

    private static List<?> answers() throws Exception {
        Path dir = Files.createTempDirectory("readme");
        Path source = dir.resolve("Examples.java");
        Path made = dir.resolve("Examples.class");
        try {
            Files.writeString(source, program);
            String classes = System.getProperty("java.class.path");
            String[] javac = {"javac", "-cp", classes, "-d", dir.toString(), source.toString()};
            int failed = new ProcessBuilder(javac).inheritIO().start().waitFor();
            check.due(0, "javac of the examples", failed, 0);
            return failed == 0 ? answersOf(dir.toFile()) : List.of();
        } finally {
            Files.deleteIfExists(made);
            Files.deleteIfExists(source);
            Files.deleteIfExists(dir);
        }
    }

    private static List<?> answersOf(File dir) throws Exception {
        try (URLClassLoader loader = new URLClassLoader(new URL[] {dir.toURI().toURL()})) {
            return (List<?>) loader.loadClass("Examples").getMethod("answers").invoke(null);
        }
    }
}
