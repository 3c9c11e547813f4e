import java.io.IOException;
import java.lang.reflect.Method;
import java.lang.reflect.Modifier;
import java.net.URL;
import java.net.URLClassLoader;
import java.nio.file.Files;
import java.nio.file.Path;
import java.util.ArrayList;
import java.util.Comparator;
import java.util.List;
import java.util.Set;
import java.util.TreeSet;
import java.util.regex.Matcher;
import java.util.regex.Pattern;
import java.util.stream.Stream;
import javax.tools.ToolProvider;

/** What README.md says of the class and of its tests is true of them. */
public final class ReadmeTest {
    private static final Path README = Path.of("README.md");
    private static final Path DOCUMENT = Path.of("../shared/DOC.md");
    private static final Path TESTS = Path.of("src/test/java");
    /** A call in the example whose comment begins with the answer. */
    private static final Pattern ANSWERED = Pattern.compile(
            "(x\\.\\w+\\(.*\\)); +// (true|false|-?\\d+|SecretKeeper\\.[A-Z]+)(?::.*)?");
    private static final Checks CHECKS = new Checks("ReadmeTest");

    public static void main(String[] args) throws Exception {
        String readme = Files.readString(README);
        example(readme);
        kinds(readme);
        calls(readme);
        tests(readme);
        CHECKS.end();
    }

    private static List<String> blocks(String text, String language) {
        List<String> found = new ArrayList<>();
        Matcher block = Pattern.compile("(?s)```" + language + "\n(.*?)```").matcher(text);
        while (block.find()) {
            found.add(block.group(1));
        }
        return found;
    }

    private static void example(String readme) throws Exception {
        CHECKS.part("the example");
        List<String> examples = blocks(readme, "java");
        CHECKS.due("examples", examples.size(), 1);
        Path place = Files.createTempDirectory("readme");
        try {
            for (String[] row : run(examples.get(0), place)) {
                CHECKS.due(row[0], row[1], row[2]);
            }
        } finally {
            remove(place);
        }
    }

    /** For each answered call its line, what it answered and what the comment says. */
    private static String[][] run(String example, Path place) throws Exception {
        StringBuilder rows = new StringBuilder();
        for (String line : example.split("\n")) {
            Matcher answered = ANSWERED.matcher(line);
            if (answered.matches()) {
                rows.append("rows.add(new String[] {\"").append(line).append("\", \"\" + ")
                        .append(answered.group(1)).append(", \"\" + ").append(answered.group(2))
                        .append("});\n");
            } else {
                rows.append(line).append("\n");
            }
        }
        Path source = place.resolve("ReadmeExample.java");
        Files.writeString(source, "public final class ReadmeExample {\n"
                + "public static String[][] run() {\n"
                + "java.util.List<String[]> rows = new java.util.ArrayList<>();\n" + rows
                + "return rows.toArray(new String[0][]);\n}\n}\n");
        int compiled = ToolProvider.getSystemJavaCompiler().run(null, null, null, "-cp",
                System.getProperty("java.class.path"), "-d", place.toString(), source.toString());
        CHECKS.due("compiling the example", compiled, 0);
        if (compiled != 0) {
            return new String[0][];
        }
        try (URLClassLoader loader = new URLClassLoader(new URL[] {place.toUri().toURL()})) {
            Method run = loader.loadClass("ReadmeExample").getMethod("run");
            String[][] made = (String[][]) run.invoke(null);
            CHECKS.due("some calls are told with their answers", made.length > 0, true);
            return made;
        }
    }

    private static void remove(Path place) throws IOException {
        try (Stream<Path> inside = Files.walk(place)) {
            for (Path each : inside.sorted(Comparator.reverseOrder()).toList()) {
                Files.delete(each);
            }
        }
    }

    private static void kinds(String readme) throws IOException {
        CHECKS.part("the kinds are the document's");
        CHECKS.due("the blocks", String.join("---\n", blocks(readme, "text")),
                String.join("---\n", blocks(Files.readString(DOCUMENT), "text")));
    }

    private static void calls(String readme) {
        CHECKS.part("the calls are those of the class");
        Set<String> there = new TreeSet<>();
        for (Method m : SecretKeeper.class.getDeclaredMethods()) {
            if (Modifier.isPublic(m.getModifiers())) {
                there.add(m.getName());
            }
        }
        CHECKS.due("the table", namesInTable(readme, "call").toString(), there.toString());
    }

    private static void tests(String readme) throws IOException {
        CHECKS.part("the tests are those of the project");
        Set<String> there = new TreeSet<>();
        try (Stream<Path> files = Files.list(TESTS)) {
            for (Path file : files.toList()) {
                String name = file.getFileName().toString();
                if (name.endsWith("Test.java")) {
                    there.add(name.substring(0, name.length() - ".java".length()));
                }
            }
        }
        CHECKS.due("the table", namesInTable(readme, "test").toString(), there.toString());
    }

    /** The names in the first column of the table whose heading there is the given one. */
    private static Set<String> namesInTable(String readme, String heading) {
        Set<String> names = new TreeSet<>();
        int start = readme.indexOf("\n| " + heading + " |");
        int end = readme.indexOf("\n\n", start + 1);
        CHECKS.due("a table of each " + heading, start >= 0 && end > start, true);
        if (start < 0 || end <= start) {
            return names;
        }
        for (String row : readme.substring(start + 1, end).split("\n")) {
            String column = row.split("\\|")[1];
            Matcher name = Pattern.compile("`(\\w+)`").matcher(column);
            while (name.find()) {
                names.add(name.group(1));
            }
        }
        return names;
    }
}
