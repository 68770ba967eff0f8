import java.lang.reflect.Constructor;
import java.lang.reflect.Field;
import java.lang.reflect.Method;
import java.lang.reflect.Modifier;
import java.nio.file.Files;
import java.nio.file.Path;
import java.util.Arrays;
import java.util.List;
import java.util.TreeSet;

/** The public face, the new object (promise 1), and those rules of LANGUAGE.md that a program can see. */
public final class FaceTest {
    private static final Check check = new Check();
    private static final List<String> METHODS = List.of("type 1", "erase 0", "fault 0", "tell 0", "law 6", "repeal 1",
        "meet 4", "part 2", "lend 4", "drop 1", "undo 0", "keep 1", "back 1", "told 2", "meeting 3", "loan 2",
        "sound 3", "window 3", "taken 3", "gone 5", "did 3", "older 2", "road 5", "count 1");

    public static void main(String[] args) throws Exception {
        constants();
        methods();
        nestedClasses();
        newObject();
        source();
        check.end();
    }

    private static void constants() throws Exception {
        check.due("NONE", LoanLayers.NONE, -1);
        check.due("UNKNOWN", LoanLayers.UNKNOWN, -2);
        check.due("OUTSIDE", LoanLayers.OUTSIDE, -3);
        check.due("NOT", LoanLayers.NOT, -4);
        check.due("FULL", LoanLayers.FULL, -5);
        int open = 0;
        for (Field f : LoanLayers.class.getDeclaredFields()) {
            if (Modifier.isPrivate(f.getModifiers())) continue;
            open++;
            int wanted = Modifier.PUBLIC | Modifier.STATIC | Modifier.FINAL;
            check.due("modifiers of " + f.getName(), f.getModifiers(), wanted);
        }
        check.due("open fields", open, 5);
    }

    private static void methods() {
        check.due("modifiers of the class", LoanLayers.class.getModifiers(), Modifier.PUBLIC | Modifier.FINAL);
        Constructor<?>[] constructors = LoanLayers.class.getDeclaredConstructors();
        check.due("constructors", constructors.length, 1);
        check.due("its modifiers", constructors[0].getModifiers(), Modifier.PUBLIC);
        check.due("its parameters", constructors[0].getParameterCount(), 0);
        TreeSet<String> found = new TreeSet<>();
        TreeSet<String> hidden = new TreeSet<>();
        TreeSet<String> open = new TreeSet<>();
        for (Method m : LoanLayers.class.getDeclaredMethods()) {
            if (Modifier.isPrivate(m.getModifiers())) {
                hidden.add(m.getName());
                continue;
            }
            open.add(m.getName());
            found.add(m.getName() + " " + m.getParameterCount());
            check.due("modifiers of " + m.getName(), m.getModifiers(), Modifier.PUBLIC);
            check.holds(m.getName() + " answers an int", m.getReturnType() == int.class);
            for (Class<?> c : m.getParameterTypes()) check.holds(m.getName() + " takes ints", c == int.class);
        }
        check.holds("the methods are " + found, found.equals(new TreeSet<>(METHODS)));
        hidden.retainAll(open);
        check.holds("private methods with public names: " + hidden, hidden.isEmpty());
    }

    private static void nestedClasses() {
        Class<?>[] nested = LoanLayers.class.getDeclaredClasses();
        check.holds("at most twelve classes", nested.length + 1 <= 12);
        for (Class<?> c : nested) {
            check.holds(c + " is static", Modifier.isStatic(c.getModifiers()));
            check.holds(c + " is not public", !Modifier.isPublic(c.getModifiers()));
            long fields = Arrays.stream(c.getDeclaredFields()).filter(f -> !Modifier.isStatic(f.getModifiers())).count();
            check.holds(c + " has at most twenty fields", fields <= 20);
            for (Field f : c.getDeclaredFields()) {
                boolean fixed = !Modifier.isStatic(f.getModifiers()) || Modifier.isFinal(f.getModifiers());
                check.holds(f + " is no changing static field", fixed);
            }
            for (Method m : c.getDeclaredMethods()) {
                boolean free = METHODS.stream().noneMatch(n -> n.startsWith(m.getName() + " "));
                check.holds(m + " bears no public name", free);
                check.holds(m + " takes at most seven", m.getParameterCount() <= 7);
            }
        }
    }

    private static void newObject() {
        LoanLayers x = new LoanLayers();
        for (int what = 0; what <= 12; what++) check.due("count(" + what + ")", x.count(what), 0);
        check.due("erase()", x.erase(), 0);
        check.due("undo()", x.undo(), -4);
        check.due("back(0)", x.back(0), -4);
        check.due("back(1)", x.back(1), -4);
        for (int from = 0; from < 4; from++) {
            for (int to = 0; to < 4; to++) check.due("meeting " + from + to, x.meeting(from, to, 0), -2);
        }
        LoanLayers other = new LoanLayers();
        other.law(0, 1, 2, 3, 0, 0);
        other.type(97);
        other.keep(0);
        check.due("count(0) after another object's law", x.count(0), 0);
        check.due("count(8) after another object's type", x.count(8), 0);
        check.due("back(0) after another object's keep", x.back(0), -4);
    }

    private static void source() throws Exception {
        String code = Files.readString(Path.of("src/main/java/LoanLayers.java"));
        String bare = code.replaceAll("(?s)/\\*.*?\\*/", " ").replaceAll("//[^\n]*", " ").replaceAll("\"[^\"\n]*\"", "\"\"");
        for (String word : List.of("throw", "try", "catch", "synchronized", "assert", "import", "package", "protected",
            "hashCode", "toString", "float", "double")) {
            check.holds("the word " + word, !bare.matches("(?s).*\\b" + word + "\\b.*"));
        }
        check.holds("lambdas and method references", !bare.contains("->") && !bare.contains("::"));
        check.holds("inner arrays of arrays", !bare.contains("[][]"));
        check.holds("signs beyond 127", code.chars().allMatch(c -> c < 128));
    }
}
