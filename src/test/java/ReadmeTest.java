import java.io.IOException;
import java.lang.reflect.InvocationTargetException;
import java.net.URL;
import java.net.URLClassLoader;
import java.nio.file.Files;
import java.nio.file.Path;
import java.util.ArrayList;
import java.util.List;
import java.util.Set;
import java.util.TreeSet;
import java.util.regex.Matcher;
import java.util.regex.Pattern;
import java.util.stream.Stream;
import javax.tools.ToolProvider;

/** README.md: its examples compile and answer what it says, its tables name what is there, its paths lead somewhere. */
public final class ReadmeTest {
    private static final Check CHECK = new Check();
    /** A call with its answer: "int one = x.xor(2, 4);  // 13: why". */
    private static final Pattern ANSWERED =
        Pattern.compile("((?:int \\w+ = )?)(x\\.\\w+\\(.*\\)); +// (-?\\d+|NONE|BAD|NO|FULL)(?:: .*)?");
    /** Lines that need name no answer: a new object, and calls that only lead to those looked at. */
    private static final Pattern UNANSWERED =
        Pattern.compile("SweptGates x = new SweptGates\\(\\);|for \\(.*\\) x\\.(type|out)\\(.*\\);");
    private static final Pattern METHOD_ROW = Pattern.compile("\\| `((?:int|long) \\w+\\(.*?\\))` \\|.*");
    private static final Pattern TEST_ROW = Pattern.compile("\\| `(\\w+Test)` \\|.*");
    private static final Pattern PATH = Pattern.compile("`([\\w.-]*/[\\w./-]*)`");

    public static void main(String[] args) throws Exception {
        List<String> readme = Files.readAllLines(Document.README);
        examples(readme);
        callsOfAllExamples(readme);
        CHECK.holds("the table of calls is the document's face",
            namesIn(readme, METHOD_ROW).equals(new ArrayList<>(Document.methods())));
        CHECK.holds("the table of tests names each test once",
            new TreeSet<>(namesIn(readme, TEST_ROW)).equals(testsThere()) && namesIn(readme, TEST_ROW).size() == testsThere().size());
        paths(readme);
        CHECK.end();
    }

    /** The one that an example's line calls when it has run. */
    public static long due(int line, String call, long got, long want) {
        CHECK.due("README.md, line " + line + ": " + call, got, want);
        return got;
    }

    private static void examples(List<String> readme) throws Exception {
        StringBuilder program = new StringBuilder("public final class ReadmeExamples {\n");
        int examples = 0;
        boolean within = false;
        for (int i = 0; i < readme.size(); i++) {
            String line = readme.get(i);
            if (line.equals("```java")) {
                within = true;
                examples++;
                program.append("public static void example").append(examples).append("() {\n");
            } else if (within && line.equals("```")) {
                within = false;
                program.append("}\n");
            } else if (within) {
                program.append(looked(i + 1, line)).append('\n');
            }
        }
        CHECK.holds("some examples, each ended", examples > 0 && !within);
        run(program.append("}\n").toString(), examples);
    }

    private static String looked(int number, String line) {
        Matcher call = ANSWERED.matcher(line);
        if (!call.matches()) {
            CHECK.holds("README.md, line " + number + " names no answer: " + line, UNANSWERED.matcher(line).matches());
            return line;
        }
        String want = call.group(3).matches("[A-Z]+") ? "SweptGates." + call.group(3) : call.group(3) + "L";
        String told = "\"" + call.group(2).replace("\"", "\\\"") + "\"";
        String due = "ReadmeTest.due(" + number + ", " + told + ", " + call.group(2) + ", " + want + ")";
        return call.group(1).isEmpty() ? due + ";" : call.group(1) + "(int) " + due + ";";
    }

    private static void run(String program, int examples) throws Exception {
        Path folder = Files.createTempDirectory("readme");
        try {
            Path file = folder.resolve("ReadmeExamples.java");
            Files.writeString(file, program);
            int code = ToolProvider.getSystemJavaCompiler().run(null, null, null, "-d", folder.toString(),
                "-cp", System.getProperty("java.class.path"), file.toString());
            CHECK.due("README.md: its examples compile", code, 0);
            if (code == 0) {
                call(folder, examples);
            }
        } finally {
            remove(folder);
        }
    }

    private static void call(Path folder, int examples) throws Exception {
        URL[] places = {folder.toUri().toURL()};
        try (URLClassLoader loader = new URLClassLoader(places, ReadmeTest.class.getClassLoader())) {
            Class<?> made = loader.loadClass("ReadmeExamples");
            for (int i = 1; i <= examples; i++) {
                try {
                    made.getMethod("example" + i).invoke(null);
                } catch (InvocationTargetException thrown) {
                    CHECK.holds("README.md: example " + i + " threw " + thrown.getCause(), false);
                }
            }
        }
    }

    private static void remove(Path folder) throws IOException {
        try (Stream<Path> files = Files.list(folder)) {
            for (Path file : files.toList()) {
                Files.delete(file);
            }
        }
        Files.delete(folder);
    }

    /** So that none is left out when an example is cut. */
    private static void callsOfAllExamples(List<String> readme) throws IOException {
        String all = String.join("\n", readme);
        for (String method : Document.methods()) {
            String name = method.replaceAll("\\w+ (\\w+)\\(.*", "$1");
            CHECK.holds("README.md shows no call of " + name, all.contains("x." + name + "("));
        }
    }

    private static List<String> namesIn(List<String> readme, Pattern row) {
        List<String> names = new ArrayList<>();
        for (String line : readme) {
            Matcher m = row.matcher(line);
            if (m.matches()) {
                names.add(m.group(1));
            }
        }
        return names;
    }

    private static Set<String> testsThere() throws IOException {
        Set<String> names = new TreeSet<>();
        try (Stream<Path> files = Files.list(Document.TESTS)) {
            for (Path file : files.toList()) {
                String name = file.getFileName().toString();
                if (name.endsWith("Test.java")) {
                    names.add(name.replace(".java", ""));
                }
            }
        }
        return names;
    }

    private static void paths(List<String> readme) {
        for (String line : readme) {
            Matcher path = PATH.matcher(line);
            while (path.find()) {
                CHECK.holds("README.md names " + path.group(1) + ", which is not there", Files.exists(Path.of(path.group(1))));
            }
        }
        CHECK.holds(".ci/run can be run", Files.isExecutable(Path.of(".ci/run")));
    }
}
