import java.io.IOException;
import java.lang.reflect.Constructor;
import java.lang.reflect.Field;
import java.lang.reflect.Method;
import java.lang.reflect.Modifier;
import java.nio.file.Files;
import java.util.List;
import java.util.Set;
import java.util.TreeSet;
import java.util.regex.Matcher;
import java.util.regex.Pattern;

/** "The public face": each constant, the constructor, each method with its types, as the document writes them. */
public final class FaceTest {
    private static final Check CHECK = new Check();
    private static final String[][] GROUPS = {
        {"circuits", "inputs", "gate", "xor", "mux", "out", "pattern", "settles"},
        {"what is told", "of", "table", "at", "depth", "cone", "outs", "count", "sign"},
        {"the sweep", "form", "lines", "swept", "row", "alike", "witness", "verdict"},
        {"texts", "type", "clear", "does", "back", "told", "digest"}};

    public static void main(String[] args) throws IOException, IllegalAccessException {
        CHECK.due("lines of the document's face", Document.face().size(), 30);
        CHECK.due("methods of the document's face", Document.methods().size(), 28);
        constants();
        constructor();
        methods();
        namesOfPrivateMethods();
        asWritten();
        groups();
        CHECK.end();
    }

    private static void constants() throws IOException, IllegalAccessException {
        Set<String> due = new TreeSet<>();
        Matcher told = Pattern.compile("(\\w+) = (-?\\d+)").matcher(Document.face().get(0));
        while (told.find()) {
            due.add("int " + told.group());
        }
        Set<String> seen = new TreeSet<>();
        for (Field f : SweptGates.class.getDeclaredFields()) {
            int how = f.getModifiers();
            if (!Modifier.isPrivate(how)) {
                CHECK.holds(f + " is public static final", Modifier.toString(how).equals("public static final"));
                seen.add(f.getType() + " " + f.getName() + " = " + f.get(null));
            }
        }
        CHECK.due("constants of the document's face", due.size(), 4);
        CHECK.holds("constants " + seen + ", due are " + due, seen.equals(due));
    }

    private static void constructor() throws IOException {
        CHECK.holds("the class is public and final", Modifier.toString(SweptGates.class.getModifiers()).equals("public final"));
        CHECK.holds("the class stands on no other", SweptGates.class.getSuperclass() == Object.class
            && SweptGates.class.getInterfaces().length == 0);
        CHECK.holds("no package", SweptGates.class.getPackageName().isEmpty());
        Constructor<?>[] made = SweptGates.class.getDeclaredConstructors();
        CHECK.holds("the document's constructor", Document.face().get(1).equals("public SweptGates();"));
        CHECK.holds("one constructor, public, that takes nothing", made.length == 1
            && Modifier.isPublic(made[0].getModifiers()) && made[0].getParameterCount() == 0);
    }

    private static void methods() throws IOException {
        Set<String> due = new TreeSet<>();
        for (String told : Document.methods()) {
            due.add("public " + told.replaceAll("(int|long) \\w+(?=[,)])", "$1").replace(" (", "("));
        }
        Set<String> seen = new TreeSet<>();
        for (Method m : SweptGates.class.getDeclaredMethods()) {
            if (!Modifier.isPrivate(m.getModifiers())) {
                seen.add(Modifier.toString(m.getModifiers()) + " " + m.getReturnType() + " " + m.getName() + "(" + types(m) + ")");
            }
        }
        for (String method : due) {
            CHECK.holds(method + " is not there", seen.contains(method));
        }
        for (String method : seen) {
            CHECK.holds(method + " is not the document's", due.contains(method));
        }
    }

    private static String types(Method m) {
        StringBuilder types = new StringBuilder();
        for (Class<?> type : m.getParameterTypes()) {
            types.append(types.length() == 0 ? "" : ", ").append(type);
        }
        return types.toString();
    }

    /** LANGUAGE.md, rule 1: "No private method bears the name of a public one", those of classes inside too. */
    private static void namesOfPrivateMethods() throws IOException {
        Set<String> names = new TreeSet<>();
        for (String told : Document.methods()) {
            names.add(told.replaceAll("\\w+ (\\w+)\\(.*", "$1"));
        }
        CHECK.due("names", names.size(), 28);
        for (Method m : SweptGates.class.getDeclaredMethods()) {
            CHECK.holds("private " + m, !Modifier.isPrivate(m.getModifiers()) || !names.contains(m.getName()));
        }
        for (Class<?> inside : SweptGates.class.getDeclaredClasses()) {
            for (Method m : inside.getDeclaredMethods()) {
                CHECK.holds(m + " bears a public name", !names.contains(m.getName()));
            }
        }
    }

    /** The names of parameters can not be seen but in the file; its order is the face's. */
    private static void asWritten() throws IOException {
        List<String> program = Files.readAllLines(Document.PROGRAM);
        int place = 0;
        for (String told : Document.face()) {
            String line = "    " + (told.endsWith(");") ? told.replace(");", ") {") : told);
            int found = program.indexOf(line);
            CHECK.holds("'" + line.trim() + "' stands in the file, behind the one ahead of it", found > place);
            place = found;
        }
    }

    /** "Ahead of the calls .. the interface says: ---- circuits." */
    private static void groups() throws IOException {
        String document = Files.readString(Document.DOCUMENT);
        String program = Files.readString(Document.PROGRAM);
        for (String[] group : GROUPS) {
            StringBuilder calls = new StringBuilder();
            for (int i = 1; i < group.length; i++) {
                calls.append(i == 1 ? "`" : ", `").append(group[i]).append('`');
            }
            CHECK.holds("the document says " + group[0],
                document.contains("Ahead of the calls " + calls + " the interface says: ---- " + group[0] + "."));
            CHECK.holds("the file says " + group[0] + " ahead of " + group[1],
                program.matches("(?s).*// ---- " + group[0] + "\n\n    public int " + group[1] + "\\(.*"));
        }
    }
}
