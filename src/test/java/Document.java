import java.io.IOException;
import java.nio.file.Files;
import java.nio.file.Path;
import java.util.ArrayList;
import java.util.List;

/** The project's texts, as lines. Tests run in the project's own folder. */
final class Document {
    static final Path DOCUMENT = Path.of("../shared/DOC.md");
    static final Path README = Path.of("README.md");
    static final Path PROGRAM = Path.of("src/main/java/SweptGates.java");
    static final Path TESTS = Path.of("src/test/java");

    private Document() {
    }

    /** The lines of the document's public face, without those of the class itself. */
    static List<String> face() throws IOException {
        List<String> face = new ArrayList<>();
        boolean within = false;
        for (String line : Files.readAllLines(DOCUMENT)) {
            if (line.startsWith("public final class SweptGates {")) {
                within = true;
            } else if (line.equals("}")) {
                within = false;
            } else if (within) {
                face.add(line.trim());
            }
        }
        return face;
    }

    /** "int gate(int a, int b)" of each method of the face. */
    static List<String> methods() throws IOException {
        List<String> methods = new ArrayList<>();
        for (String line : face()) {
            if (line.matches("public \\w+ \\w+\\(.*\\);")) {
                methods.add(line.substring("public ".length(), line.length() - 1));
            }
        }
        return methods;
    }
}
