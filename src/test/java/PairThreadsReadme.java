import java.io.IOException;
import java.net.URL;
import java.net.URLClassLoader;
import java.nio.file.Files;
import java.nio.file.Path;
import java.util.ArrayList;
import java.util.HashSet;
import java.util.List;
import java.util.Set;
import java.util.regex.Matcher;
import java.util.regex.Pattern;
import java.util.stream.Stream;
import javax.tools.ToolProvider;

// README.md: its examples are compiled and run as they stand there, and each call that is followed by
// "// answer" has to give that answer. Run from the project's directory, as .ci/run does.
public final class PairThreadsReadme {
    private static final List<String> CALLS = List.of("link", "unlink", "place", "degree", "other", "drop",
            "rename", "at", "count", "part", "way", "clear", "check");
    private static final Pattern EXAMPLE =
            Pattern.compile("\\s*(\\w+\\.(\\w+)\\(.*\\));\\s*// (-?\\d+|NONE|FULL)(\\W.*)?");
    private static int wrong = 0;

    private static void tell(String what) {
        wrong++;
        System.out.println("README.md: " + what);
    }

    /** Called by the compiled examples too. */
    public static void due(String call, int got, int want) {
        if (got != want) {
            tell(call + " answers " + got + ", not " + want);
        }
    }

    /** The lines of all Java blocks, or those outside of every block. */
    private static List<String> lines(List<String> readme, boolean ofJava) {
        List<String> found = new ArrayList<>();
        String block = "";
        for (String line : readme) {
            if (line.startsWith("```")) {
                block = block.isEmpty() ? line : "";
            } else if (ofJava ? block.equals("```java") : block.isEmpty()) {
                found.add(line);
            }
        }
        return found;
    }

    private static String asCode(String line, Set<String> shown) {
        Matcher example = EXAMPLE.matcher(line);
        if (!example.matches()) {
            if (line.contains("//")) {
                tell("no call with an answer: " + line);
            }
            return line;
        }
        shown.add(example.group(2));
        shown.add(example.group(3));
        String answer = example.group(3);
        String want = answer.matches("NONE|FULL") ? "PairThreads." + answer : answer;
        return "PairThreadsReadme.due(\"" + example.group(1) + "\", " + example.group(1) + ", " + want + ");";
    }

    private static void runExamples(List<String> code) throws IOException, ReflectiveOperationException {
        Path place = Files.createTempDirectory("readme");
        Path source = place.resolve("ReadmeExamples.java");
        Files.writeString(source, "public final class ReadmeExamples {\npublic static void run() {\n"
                + String.join("\n", code) + "\n}\n}\n");
        int failed = ToolProvider.getSystemJavaCompiler().run(null, null, null, "-d", place.toString(),
                "-cp", System.getProperty("java.class.path"), source.toString());
        if (failed != 0) {
            tell("its examples do not compile");
        } else {
            runCompiled(place);
        }
        remove(place);
    }

    private static void runCompiled(Path place) throws IOException, ReflectiveOperationException {
        try (URLClassLoader loader = new URLClassLoader(new URL[] {place.toUri().toURL()})) {
            loader.loadClass("ReadmeExamples").getMethod("run").invoke(null);
        }
    }

    private static void remove(Path place) throws IOException {
        try (Stream<Path> files = Files.list(place)) {
            for (Path file : files.toList()) {
                Files.delete(file);
            }
        }
        Files.delete(place);
    }

    private static void dueAllShown(Set<String> shown, String text) {
        for (String call : CALLS) {
            if (!shown.contains(call)) {
                tell("no example of " + call);
            }
            if (!text.contains("`" + call + "(")) {
                tell("does not say how " + call + " is called");
            }
        }
        for (String constant : List.of("NONE", "FULL")) {
            if (!shown.contains(constant)) {
                tell("no example that answers " + constant);
            }
        }
    }

    private static void dueTestsNamed(String text) throws IOException {
        try (Stream<Path> files = Files.list(Path.of("src/test/java"))) {
            for (Path file : files.toList()) {
                String name = file.getFileName().toString().replace(".java", "");
                if (!text.contains("`" + name + "`")) {
                    tell("does not name the test " + name);
                }
            }
        }
    }

    public static void main(String[] args) throws IOException, ReflectiveOperationException {
        List<String> readme = Files.readAllLines(Path.of("README.md"));
        String text = String.join("\n", lines(readme, false));
        Set<String> shown = new HashSet<>();
        List<String> code = new ArrayList<>();
        for (String line : lines(readme, true)) {
            code.add(asCode(line, shown));
        }
        runExamples(code);
        dueAllShown(shown, text);
        dueTestsNamed(text);
        System.out.println(wrong == 0 ? "README.md is as due" : "README.md is not as due");
        if (wrong != 0) {
            System.exit(1);
        }
    }
}
