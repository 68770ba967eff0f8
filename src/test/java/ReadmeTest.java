import java.io.File;
import java.io.IOException;
import java.lang.reflect.Method;
import java.lang.reflect.Modifier;
import java.net.URL;
import java.net.URLClassLoader;
import java.nio.file.Files;
import java.nio.file.Path;
import java.util.ArrayList;
import java.util.List;
import java.util.TreeSet;
import java.util.function.Supplier;
import java.util.regex.Matcher;
import java.util.regex.Pattern;
import javax.tools.ToolProvider;

/**
 * The example in README.md, call by call: its pieces are put together to one program, which is compiled and
 * run, and each call answers what README.md gives behind it.
 */
public final class ReadmeTest {
    private static final Check check = new Check();
    private static final int MOST_CALLS = 512;
    private static final Pattern CALL = Pattern.compile("(x\\.(\\w+)\\(.*\\)); +// (-?[0-9]+|[A-Z]+): .+");
    private static final List<String> CONSTANTS = List.of("NONE", "UNKNOWN", "OUTSIDE", "NOT", "FULL");

    /** A call of the example, the answer behind it, and the line in README.md. */
    record Call(int line, String words, String method, String answer) { }

    private final List<Call> calls = new ArrayList<>();
    private final StringBuilder program = new StringBuilder();

    public static void main(String[] args) throws Exception {
        ReadmeTest test = new ReadmeTest();
        test.readExample(Files.readAllLines(Path.of("README.md")));
        test.showsEverything();
        test.compareAnswers(test.runExample());
        check.end();
    }

    private void readExample(List<String> lines) {
        boolean inside = false;
        for (int i = 0; i < lines.size(); i++) {
            String line = lines.get(i);
            if (line.startsWith("```")) inside = line.equals("```java");
            else if (inside) readLine(i + 1, line);
        }
        check.holds("README.md's example ends", !inside);
    }

    private void readLine(int number, String line) {
        Matcher call = CALL.matcher(line);
        boolean answered = call.matches();
        boolean asks = line.contains("x.") && !line.startsWith("for ");
        if (asks) check.holds("README.md, line " + number + ": an answer stands behind the call", answered);
        String words = answered ? "answers.add(" + call.group(1) + ");" : line;
        // So the calls of a loop are counted too.
        program.append(words.replaceAll("\\bx\\.", "counted(x).")).append('\n');
        if (answered) calls.add(new Call(number, call.group(1), call.group(2), call.group(3)));
    }

    private void showsEverything() {
        TreeSet<String> methods = new TreeSet<>();
        for (Method m : LoanLayers.class.getDeclaredMethods()) {
            if (Modifier.isPublic(m.getModifiers())) methods.add(m.getName());
        }
        TreeSet<String> constants = new TreeSet<>(CONSTANTS);
        for (Call call : calls) {
            methods.remove(call.method());
            constants.remove(call.answer());
        }
        check.holds("README.md's example shows every method, but for " + methods, methods.isEmpty());
        check.holds("README.md's example shows every constant, but for " + constants, constants.isEmpty());
    }

    private List<Integer> runExample() throws Exception {
        String source = "import java.util.*;\n"
            + "public final class ReadmeExample implements java.util.function.Supplier<List<Integer>> {\n"
            + "private int made = 0;\n"
            + "private LoanLayers counted(LoanLayers x) { made++; return x; }\n"
            + "public List<Integer> get() {\nList<Integer> answers = new ArrayList<>();\n"
            + program + "answers.add(made);\nreturn answers;\n}\n}\n";
        Path place = Files.createTempDirectory("readme");
        try {
            Path file = Files.writeString(place.resolve("ReadmeExample.java"), source);
            String own = System.getProperty("java.class.path");
            int left = ToolProvider.getSystemJavaCompiler().run(null, null, null, "-cp", own, "-d", place.toString(), file.toString());
            check.due("the compiler of README.md's example", left, 0);
            return left == 0 ? answersOf(place) : List.of();
        } finally {
            deleteAll(place);
        }
    }

    private static List<Integer> answersOf(Path place) throws Exception {
        try (URLClassLoader loader = new URLClassLoader(new URL[] {place.toUri().toURL()})) {
            Object example = loader.loadClass("ReadmeExample").getConstructor().newInstance();
            List<Integer> answers = new ArrayList<>();
            for (Object answer : (List<?>) ((Supplier<?>) example).get()) answers.add((Integer) answer);
            return answers;
        }
    }

    private static void deleteAll(Path place) throws IOException {
        File[] files = place.toFile().listFiles();
        if (files != null) {
            for (File file : files) Files.delete(file.toPath());
        }
        Files.delete(place);
    }

    private void compareAnswers(List<Integer> answers) {
        check.due("the number of answers of README.md's example", answers.size(), calls.size() + 1);
        for (int i = 0; i < Math.min(calls.size(), answers.size()); i++) {
            Call call = calls.get(i);
            check.due("README.md, line " + call.line() + ": " + call.words(), answers.get(i), numberOf(call.answer()));
        }
        if (!answers.isEmpty()) {
            int made = answers.get(answers.size() - 1);
            check.holds("README.md's example makes " + made + " calls, at most 512", made <= MOST_CALLS);
        }
    }

    private static int numberOf(String answer) {
        int constant = CONSTANTS.indexOf(answer);
        return constant >= 0 ? -1 - constant : Integer.parseInt(answer);
    }
}
