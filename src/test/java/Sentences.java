import java.io.IOException;
import java.nio.file.Files;
import java.nio.file.Path;
import java.util.ArrayList;
import java.util.LinkedHashMap;
import java.util.List;
import java.util.Map;
import java.util.function.Supplier;
import java.util.function.ToIntFunction;

/**
 * Answers under the sentence of the document that asks for them. Each test begins with on(section,
 * sentence), in the document's own words; end() looks whether the document has these words, and whether
 * it has a sentence that no test names.
 */
final class Sentences {
    static final int NONE = -1, UNKNOWN = -2, OUTSIDE = -3, NOT = -4, FULL = -5;
    static final int LEAST = Integer.MIN_VALUE, GREATEST = Integer.MAX_VALUE;
    private static final int MOST_SHOWN = 40;

    private final Map<String, List<String>> quotes = new LinkedHashMap<>();
    private String section = "";
    private String sentence = "";
    private Probe latest = null;
    private int seen = 0;
    private int seenBefore = 0;
    private int wrong = 0;

    /** Begins the test of a sentence: what follows, up to the next one, is answered as it asks. */
    void on(String section, String sentence) {
        endSentence();
        this.section = section;
        this.sentence = sentence;
        quotes.computeIfAbsent(section, k -> new ArrayList<>()).add(sentence);
    }

    private void endSentence() {
        if (!sentence.isEmpty() && seen == seenBefore) complain("no answer was looked at");
        seenBefore = seen;
    }

    /** Names a sentence that asks for no answer, or for one that another test of the project looks at. */
    void leaves(String section, String sentence) {
        quotes.computeIfAbsent(section, k -> new ArrayList<>()).add(sentence);
    }

    Probe fresh() {
        return new Probe(this);
    }

    /** A new object to which a text has been told. */
    Probe told(String text) {
        return fresh().tells(text);
    }

    void latest(Probe probe) {
        latest = probe;
    }

    /** The latest call's answer, and the one that is due. */
    void due(int got, int want) {
        seen++;
        if (got != want) complain("answered " + got + ", due is " + want + ": " + latest.run());
    }

    /** A refused call: its error, and that nothing has changed behind it. */
    void refused(Supplier<Probe> maker, ToIntFunction<Probe> call, int error) {
        due(call.applyAsInt(maker.get()), error);
        for (Views.View view : Views.ALL) {
            List<Integer> want = view.of(maker.get());
            Probe touched = maker.get();
            due(call.applyAsInt(touched), error);
            String refused = touched.run();
            List<Integer> got = view.of(touched);
            seen++;
            if (!got.equals(want)) complain("changed something: " + refused + "; then " + got + ", not " + want);
        }
    }

    private void complain(String what) {
        wrong++;
        if (wrong <= MOST_SHOWN) System.out.println(section + ", \"" + sentence + "\": " + what);
    }

    /** Ends the program, with exit code 1 if an answer was wrong or a sentence has no test. */
    void end(Path document) throws IOException {
        endSentence();
        Map<String, String> sections = sectionsOf(Files.readString(document));
        for (Map.Entry<String, String> e : sections.entrySet()) lookThrough(e.getKey(), e.getValue());
        for (String name : quotes.keySet()) {
            if (!sections.containsKey(name)) report("the document has no section " + name);
        }
        System.out.println(seen + " answers seen, " + wrong + " wrong");
        if (wrong != 0 || seen == 0) System.exit(1);
    }

    private void report(String what) {
        wrong++;
        System.out.println(what);
    }

    private void lookThrough(String name, String words) {
        List<String> quoted = new ArrayList<>(quotes.getOrDefault(name, List.of()));
        quoted.sort((a, b) -> b.length() - a.length());
        String rest = words;
        for (String quote : quoted) {
            if (!words.contains(quote)) report(name + " has no such words: " + quote);
            rest = rest.replace(quote, "|");
        }
        boolean binds = name.equals("Description") || name.startsWith("Promise ");
        for (String piece : rest.split("\\|")) {
            if (binds && piece.matches(".*[A-Za-z0-9].*")) report(name + ", no test names: " + piece.strip());
        }
    }

    /**
     * The sections by name, all white space made one blank, without their headings and signatures, and
     * without the examples, which ExamplesTest has.
     */
    private static Map<String, String> sectionsOf(String document) {
        Map<String, String> sections = new LinkedHashMap<>();
        String[] parts = document.split("(?m)^## ");
        for (int i = 1; i < parts.length; i++) {
            int line = parts[i].indexOf('\n');
            String name = parts[i].substring(0, line).replaceAll(":.*", "");
            String words = parts[i].substring(line).replaceAll("(?m)^`.*`$", "").replaceAll("(?m)^----.*$", "");
            words = words.replaceAll("(?s)Examples: .*(?=The constants:)", "");
            sections.put(name, words.replaceAll("\\s+", " "));
        }
        return sections;
    }
}
