import java.io.IOException;
import java.lang.reflect.Constructor;
import java.lang.reflect.Field;
import java.lang.reflect.Method;
import java.lang.reflect.Modifier;
import java.nio.file.Files;
import java.nio.file.Path;
import java.util.Set;
import java.util.TreeSet;
import java.util.regex.Matcher;
import java.util.regex.Pattern;

/** The public face, and the rules of LANGUAGE.md that can be seen by reading. The program's path is the argument. */
public final class FaceTest {
    private static final Check CHECK = new Check();
    private static final String[] FACE = {
        "int inputs 1", "int gate 2", "int xor 2", "int mux 3", "int out 2", "int pattern 1", "int settles 0",
        "int of 2", "int table 1", "int at 2", "int depth 1", "int cone 1", "int outs 2", "int count 1", "int sign 1",
        "int form 1", "int lines 2", "int swept 1", "int row 1", "int alike 1", "int witness 1", "int verdict 0",
        "int type 1", "int clear 0", "int does 0", "int back 0", "int told 1", "long digest 0"};

    public static void main(String[] args) throws IOException {
        constants();
        face();
        classesInside();
        source(args.length > 0 ? args[0] : "src/main/java/SweptGates.java");
        CHECK.end();
    }

    private static void constants() {
        CHECK.due("NONE", SweptGates.NONE, -1);
        CHECK.due("BAD", SweptGates.BAD, -2);
        CHECK.due("NO", SweptGates.NO, -3);
        CHECK.due("FULL", SweptGates.FULL, -4);
        Set<String> seen = new TreeSet<>();
        for (Field f : SweptGates.class.getDeclaredFields()) {
            if (Modifier.isStatic(f.getModifiers())) {
                CHECK.holds("rule 5: static " + f.getName() + " is final", Modifier.isFinal(f.getModifiers()));
            }
            if (!Modifier.isPrivate(f.getModifiers())) {
                CHECK.holds("rule 1: " + f.getName() + " is public", Modifier.isPublic(f.getModifiers()));
                seen.add(f.getName());
            }
        }
        CHECK.holds("rule 1: constants " + seen, seen.equals(Set.of("NONE", "BAD", "NO", "FULL")));
    }

    private static void face() {
        CHECK.holds("rule 1: public and final", Modifier.isPublic(SweptGates.class.getModifiers())
            && Modifier.isFinal(SweptGates.class.getModifiers()));
        Constructor<?>[] made = SweptGates.class.getDeclaredConstructors();
        CHECK.holds("rule 1: one public constructor", made.length == 1 && Modifier.isPublic(made[0].getModifiers())
            && made[0].getParameterCount() == 0);
        Set<String> due = new TreeSet<>(Set.of(FACE));
        Set<String> seen = new TreeSet<>();
        for (Method m : SweptGates.class.getDeclaredMethods()) {
            if (!Modifier.isPrivate(m.getModifiers())) {
                CHECK.holds("rule 1: " + m.getName() + " is public", Modifier.isPublic(m.getModifiers()));
                seen.add(m.getReturnType() + " " + m.getName() + " " + m.getParameterCount());
            }
        }
        CHECK.holds("rule 1: methods " + seen, seen.equals(due));
    }

    private static void classesInside() {
        Set<String> names = new TreeSet<>();
        for (String told : FACE) {
            names.add(told.split(" ")[1]);
        }
        for (Class<?> inside : SweptGates.class.getDeclaredClasses()) {
            CHECK.holds("rule 2: " + inside + " is static", Modifier.isStatic(inside.getModifiers()));
            CHECK.holds("rule 11: fields of " + inside, inside.getDeclaredFields().length <= 20);
            for (Method m : inside.getDeclaredMethods()) {
                CHECK.holds("rule 1: " + m + " bears a public name", !names.contains(m.getName()));
                CHECK.holds("rule 11: parameters of " + m, m.getParameterCount() <= 7);
            }
        }
        for (Method m : SweptGates.class.getDeclaredMethods()) {
            CHECK.holds("rule 1: private " + m, !Modifier.isPrivate(m.getModifiers()) || !names.contains(m.getName()));
        }
    }

    private static void source(String path) throws IOException {
        String whole = Files.readString(Path.of(path));
        String code = whole.replaceAll("(?s)/\\*.*?\\*/", " ").replaceAll("//[^\n]*", " ").replaceAll("\"[^\"\n]*\"", "\"\"");
        String[] words = {"throw", "throws", "try", "catch", "finally", "synchronized", "assert", "import", "package",
            "protected", "Object", "hashCode", "toString", "native", "transient", "volatile", "double", "float"};
        for (String word : words) {
            CHECK.holds("rule 4 or 6: " + word, !Pattern.compile("\\b" + word + "\\b").matcher(code).find());
        }
        CHECK.holds("rule 2: no lambda, no method reference", !code.contains("->") && !code.contains("::"));
        CHECK.holds("rule 5: no static block", !Pattern.compile("static\\s*\\{").matcher(code).find());
        Matcher library = Pattern.compile("\\b(System|Math|Integer|Long|Arrays|String)\\.(\\w+)").matcher(code);
        Set<String> used = new TreeSet<>();
        while (library.find()) {
            used.add(library.group());
        }
        CHECK.holds("rule 4: library " + used, Set.of("System.arraycopy", "Math.min", "Math.max").containsAll(used));
        noneMadeByCalls(code);
    }

    /** All objects and rows are made by constructors: a run's room does not shrink by calls. */
    private static void noneMadeByCalls(String code) {
        int made = 0;
        for (String line : code.split("\n")) {
            if (line.contains("new ")) {
                made++;
                boolean byConstructor = line.matches("\\s*final \\w+\\[] \\w+ = new \\w+\\[[^\\]]*];")
                    || line.matches("\\s*\\w+(\\[i])? = new (Circuit|Sweep|History|Script)\\(\\);");
                CHECK.holds("rule 12: " + line.trim(), byConstructor);
            }
        }
        CHECK.holds("rule 12: some are made", made > 0);
    }
}
