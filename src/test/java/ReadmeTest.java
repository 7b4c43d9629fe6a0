import java.net.URL;
import java.net.URLClassLoader;
import java.nio.file.Files;
import java.nio.file.Path;
import java.util.ArrayList;
import java.util.Comparator;
import java.util.List;
import java.util.TreeSet;
import java.util.regex.Matcher;
import java.util.regex.Pattern;
import java.util.stream.Stream;
import javax.tools.ToolProvider;

/** What README.md says of the class and of the tests is so. */
public final class ReadmeTest {
    private static final Pattern ANSWERED = Pattern.compile("(int (\\w+) = )?(s\\.\\w+\\(.*\\)); +// (-?\\w+): .*");

    public static void main(String[] args) throws Exception {
        String readme = Files.readString(Path.of("README.md"));
        runExample(blockOf(readme));
        Check.count("tests in the table", testsThatThereAre().toString(), namedTests(readme).toString());
        Check.end("ReadmeTest");
    }

    private static String blockOf(String readme) {
        int from = readme.indexOf("```java\n") + 8;
        return readme.substring(from, readme.indexOf("```", from));
    }

    /** Compiles the example, which then tells each call, what is due beside it, and what it answers. */
    private static void runExample(String block) throws Exception {
        StringBuilder source = new StringBuilder(
                "public final class ReadmeExample { public static void run(java.util.List<String> told) {\n");
        int answers = 0;
        for (String line : block.split("\n")) {
            Matcher matcher = ANSWERED.matcher(line);
            if (matcher.matches()) {
                source.append(telling(matcher));
                answers++;
            } else {
                source.append(line).append("\n");
            }
        }
        Check.count("answers in the example, a dozen at least", "true", String.valueOf(answers >= 12));
        Path folder = Files.createTempDirectory("readme");
        Path file = folder.resolve("ReadmeExample.java");
        Files.writeString(file, source.append("} }\n"));
        String classes = System.getProperty("java.class.path");
        int refused = ToolProvider.getSystemJavaCompiler().run(null, null, null, "-cp", classes, file.toString());
        Check.count("the example compiles", "0", String.valueOf(refused));
        try (URLClassLoader loader = new URLClassLoader(new URL[] {folder.toUri().toURL()})) {
            List<String> told = new ArrayList<>();
            loader.loadClass("ReadmeExample").getMethod("run", List.class).invoke(null, told);
            for (int i = 0; i < told.size(); i += 3) {
                Check.count("README: " + told.get(i), told.get(i + 1), told.get(i + 2));
            }
            Check.count("answers of the example", String.valueOf(3 * answers), String.valueOf(told.size()));
        }
        remove(folder);
    }

    private static String telling(Matcher line) {
        boolean isKept = line.group(2) != null;
        String name = isKept ? line.group(2) : "answer";
        String call = (isKept ? "int " : "var ") + name + " = " + line.group(3) + "; ";
        String tell = "java.util.Collections.addAll(told, \"" + line.group(3) + "\", \"" + line.group(4)
                + "\", String.valueOf(" + name + "));\n";
        return isKept ? call + tell : "{ " + call + tell + "}\n";
    }

    private static void remove(Path folder) throws Exception {
        try (Stream<Path> all = Files.walk(folder)) {
            for (Path path : all.sorted(Comparator.reverseOrder()).toList()) {
                Files.delete(path);
            }
        }
    }

    private static TreeSet<String> testsThatThereAre() throws Exception {
        TreeSet<String> names = new TreeSet<>();
        try (Stream<Path> all = Files.list(Path.of("src/test/java"))) {
            for (Path path : all.toList()) {
                String name = path.getFileName().toString();
                if (name.endsWith("Test.java")) {
                    names.add(name.replace(".java", ""));
                }
            }
        }
        return names;
    }

    private static TreeSet<String> namedTests(String readme) {
        TreeSet<String> names = new TreeSet<>();
        Matcher matcher = Pattern.compile("(?m)^\\| `(\\w+Test)` \\|").matcher(readme);
        while (matcher.find()) {
            names.add(matcher.group(1));
        }
        return names;
    }
}
