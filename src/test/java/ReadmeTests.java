import java.io.IOException;
import java.lang.reflect.Method;
import java.lang.reflect.Modifier;
import java.net.URL;
import java.net.URLClassLoader;
import java.nio.file.DirectoryStream;
import java.nio.file.Files;
import java.nio.file.Path;
import java.util.ArrayList;
import java.util.List;
import java.util.regex.Matcher;
import java.util.regex.Pattern;
import javax.tools.ToolProvider;

/** README.md: its example, compiled as it stands there, answers as it says; it names every call and every test. */
public final class ReadmeTests extends Checks {
    private static final Pattern BLOCK = Pattern.compile("(?s)```java\n(.*?)```");
    /** A call with its answer: a number, or a constant of the class. */
    private static final Pattern ANSWERED = Pattern.compile("(x\\.\\w+\\(.*\\)); +// (-?\\d+|[A-Z]+)(: .*)?");

    public static void main(String[] args) throws IOException, ReflectiveOperationException {
        String page = Files.readString(Path.of("README.md"));
        about("README.md");
        exampleAnswersAsItSays(page);
        namesEveryCall(page);
        namesEveryTest(page);
        end("ReadmeTests");
    }

    private static void exampleAnswersAsItSays(String page) throws IOException, ReflectiveOperationException {
        Matcher block = BLOCK.matcher(page);
        due("there is an example", block.find() ? 1 : 0, 1);
        List<String> calls = new ArrayList<>();
        List<Long> wanted = new ArrayList<>();
        StringBuilder body = new StringBuilder();
        for (String line : block.group(1).split("\n")) {
            Matcher answered = ANSWERED.matcher(line);
            if (answered.matches()) {
                calls.add(answered.group(1));
                wanted.add(valueOf(answered.group(2)));
                body.append("got.add((long) ").append(answered.group(1)).append(");\n");
            } else {
                due("a call without its answer: " + line, line.startsWith("x.") ? 1 : 0, 0);
                body.append(line).append('\n');
            }
        }
        List<Long> got = answersOf(body.toString());
        due("calls with answers", got.size(), calls.size());
        for (int k = 0; k < Math.min(calls.size(), got.size()); k++) due(calls.get(k), got.get(k), wanted.get(k));
    }

    private static long valueOf(String answer) throws ReflectiveOperationException {
        if (!Character.isLetter(answer.charAt(0))) return Long.parseLong(answer);
        return ((Number) GumHall.class.getField(answer).get(null)).longValue();
    }

    /** Compiles the example with the class under test and runs it. */
    private static List<Long> answersOf(String body) throws IOException, ReflectiveOperationException {
        Path folder = Files.createTempDirectory("readme");
        Path source = folder.resolve("Example.java");
        Files.writeString(source, "public final class Example { public static void run(java.util.List<Long> got) {\n"
            + body + "} }\n");
        String path = System.getProperty("java.class.path");
        int failed = ToolProvider.getSystemJavaCompiler().run(null, null, null, "-cp", path, "-d", folder.toString(), source.toString());
        due("the example compiles", failed, 0);
        List<Long> got = new ArrayList<>();
        if (failed == 0) {
            try (URLClassLoader loader = new URLClassLoader(new URL[] {folder.toUri().toURL()})) {
                loader.loadClass("Example").getMethod("run", List.class).invoke(null, got);
            }
        }
        remove(folder);
        return got;
    }

    private static void remove(Path folder) throws IOException {
        try (DirectoryStream<Path> files = Files.newDirectoryStream(folder)) {
            for (Path file : files) Files.delete(file);
        }
        Files.delete(folder);
    }

    private static void namesEveryCall(String page) {
        for (Method m : GumHall.class.getDeclaredMethods()) {
            if (!Modifier.isPublic(m.getModifiers())) continue;
            due("names " + m.getName(), page.contains("`" + m.getName() + "`") ? 1 : 0, 1);
        }
    }

    private static void namesEveryTest(String page) throws IOException {
        try (DirectoryStream<Path> tests = Files.newDirectoryStream(Path.of("src/test/java"), "*.java")) {
            for (Path test : tests) {
                String name = test.getFileName().toString().replace(".java", "");
                due("names " + name, page.contains("`" + name + "`") ? 1 : 0, 1);
            }
        }
    }
}
