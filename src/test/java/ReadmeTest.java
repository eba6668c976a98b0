import java.io.IOException;
import java.net.URL;
import java.net.URLClassLoader;
import java.nio.file.Files;
import java.nio.file.Path;
import java.util.Comparator;
import java.util.regex.Matcher;
import java.util.regex.Pattern;
import java.util.stream.Stream;
import javax.tools.ToolProvider;

/** What README.md says of the class: its examples are compiled and run, each answer is looked at. */
public final class ReadmeTest {
    private static final Due DUE = new Due("ReadmeTest");

    private static final Pattern BLOCK = Pattern.compile("(?s)```java\n(.*?)```");
    /** A call with its answer behind it in a comment. */
    private static final Pattern ANSWERED = Pattern.compile("(vault\\.\\w+\\(.*\\));\\s*// (-?\\d+|true|false)\\b.*");

    public static void main(String[] args) throws Exception {
        String readme = Files.readString(Path.of("README.md"));
        everyCallIsNamed(readme);
        everyTestIsNamed(readme);
        Path place = Files.createTempDirectory("readme");
        try {
            run(place, source(readme));
        } finally {
            delete(place);
        }
        DUE.end();
    }

    /** The example calls this. */
    public static void due(String call, long got, long want) {
        DUE.is(call, got, want);
    }

    public static void due(String call, boolean got, boolean want) {
        DUE.is(call, got, want);
    }

    private static void everyCallIsNamed(String readme) {
        for (var method : CertificateVault.class.getDeclaredMethods()) {
            DUE.isTrue("README.md names " + method.getName(), readme.contains("`" + method.getName() + "`"));
        }
    }

    private static void everyTestIsNamed(String readme) throws IOException {
        try (Stream<Path> tests = Files.list(Path.of("src/test/java"))) {
            for (Path test : (Iterable<Path>) tests::iterator) {
                String name = test.getFileName().toString().replace(".java", "");
                DUE.isTrue("README.md names " + name, readme.contains("`" + name + "`"));
            }
        }
    }

    /** A block that begins with static is a method of the example, the others are its calls. */
    private static String source(String readme) {
        StringBuilder methods = new StringBuilder();
        StringBuilder calls = new StringBuilder();
        int answered = 0;
        Matcher block = BLOCK.matcher(readme);
        while (block.find()) {
            if (block.group(1).startsWith("static ")) {
                methods.append(block.group(1));
                continue;
            }
            for (String line : block.group(1).split("\n")) {
                Matcher answer = ANSWERED.matcher(line);
                answered += answer.matches() ? 1 : 0;
                calls.append(answer.matches() ? looked(answer.group(1), answer.group(2)) : line).append('\n');
            }
        }
        DUE.isTrue("README.md has calls with answers: " + answered, answered > 0);
        return "public final class Example {\n" + methods + "public static void run() {\n" + calls + "}\n}\n";
    }

    private static String looked(String call, String want) {
        return "ReadmeTest.due(\"" + call.replace("\"", "\\\"") + "\", " + call + ", " + want + ");";
    }

    private static void run(Path place, String source) throws Exception {
        Path file = place.resolve("Example.java");
        Files.writeString(file, source);
        int wrong = ToolProvider.getSystemJavaCompiler().run(null, null, null,
            "-cp", System.getProperty("java.class.path"), "-d", place.toString(), file.toString());
        DUE.is("the examples compile", wrong, 0);
        if (wrong == 0) {
            try (URLClassLoader loader = new URLClassLoader(new URL[] {place.toUri().toURL()})) {
                loader.loadClass("Example").getMethod("run").invoke(null);
            }
        }
    }

    private static void delete(Path place) throws IOException {
        try (Stream<Path> files = Files.walk(place)) {
            for (Path file : (Iterable<Path>) files.sorted(Comparator.reverseOrder())::iterator) {
                Files.delete(file);
            }
        }
    }
}
