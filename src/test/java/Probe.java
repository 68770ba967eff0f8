import java.util.ArrayList;
import java.util.List;

/** An object of LoanLayers whose calls are counted and written down: the document promises 512 of them. */
final class Probe {
    static final int MOST_CALLS = 512;
    private static final int SHOWN = 25;

    private final Sentences sentences;
    private final LoanLayers x = new LoanLayers();
    private final List<String> run = new ArrayList<>();
    private int calls = 0;

    Probe(Sentences sentences) {
        this.sentences = sentences;
    }

    int calls() {
        return calls;
    }

    /** The latest calls with their answers, the very last one at the end. */
    String run() {
        List<String> shown = run.subList(Math.max(0, run.size() - SHOWN), run.size());
        return (shown.size() < run.size() ? ".. " : "") + String.join("; ", shown);
    }

    private int noted(int answer, String name, int... args) {
        StringBuilder b = new StringBuilder(name).append('(');
        for (int i = 0; i < args.length; i++) b.append(i == 0 ? "" : ", ").append(args[i]);
        note(b.append(") = ").append(answer).toString(), 1);
        return answer;
    }

    private void note(String call, int number) {
        calls += number;
        if (calls > MOST_CALLS) throw new IllegalStateException("a test makes more than 512 calls: " + run());
        run.add(call);
        sentences.latest(this);
    }

    /** Types a whole text, whatever the answers are. */
    Probe types(String text) {
        for (int i = 0; i < text.length(); i++) x.type(text.charAt(i));
        note("'" + text + "' typed", text.length());
        return this;
    }

    /** Types and tells a text that has no fault. */
    Probe tells(String text) {
        types(text);
        sentences.due(tell(), (int) text.chars().filter(c -> c == ';').count() + 1);
        return this;
    }

    int type(int letter) {
        return noted(x.type(letter), "type", letter);
    }

    int erase() {
        return noted(x.erase(), "erase");
    }

    int fault() {
        return noted(x.fault(), "fault");
    }

    int tell() {
        return noted(x.tell(), "tell");
    }

    int law(int tongue, int date, int from, int into, int where, int z) {
        return noted(x.law(tongue, date, from, into, where, z), "law", tongue, date, from, into, where, z);
    }

    int repeal(int law) {
        return noted(x.repeal(law), "repeal", law);
    }

    int meet(int from, int to, int a, int b) {
        return noted(x.meet(from, to, a, b), "meet", from, to, a, b);
    }

    int part(int from, int to) {
        return noted(x.part(from, to), "part", from, to);
    }

    int lend(int loan, int from, int to, int date) {
        return noted(x.lend(loan, from, to, date), "lend", loan, from, to, date);
    }

    int drop(int loan) {
        return noted(x.drop(loan), "drop", loan);
    }

    int undo() {
        return noted(x.undo(), "undo");
    }

    int keep(int k) {
        return noted(x.keep(k), "keep", k);
    }

    int back(int k) {
        return noted(x.back(k), "back", k);
    }

    int told(int law, int what) {
        return noted(x.told(law, what), "told", law, what);
    }

    int meeting(int from, int to, int what) {
        return noted(x.meeting(from, to, what), "meeting", from, to, what);
    }

    int loan(int loan, int what) {
        return noted(x.loan(loan, what), "loan", loan, what);
    }

    int sound(int loan, int what, int i) {
        return noted(x.sound(loan, what, i), "sound", loan, what, i);
    }

    int window(int loan, int k, int what) {
        return noted(x.window(loan, k, what), "window", loan, k, what);
    }

    int taken(int loan, int date, int i) {
        return noted(x.taken(loan, date, i), "taken", loan, date, i);
    }

    int gone(int loan, int tongue, int d, int e, int i) {
        return noted(x.gone(loan, tongue, d, e, i), "gone", loan, tongue, d, e, i);
    }

    int did(int loan, int law, int date) {
        return noted(x.did(loan, law, date), "did", loan, law, date);
    }

    int older(int loan, int other) {
        return noted(x.older(loan, other), "older", loan, other);
    }

    int road(int word, int from, int end, int to, int k) {
        return noted(x.road(word, from, end, to, k), "road", word, from, end, to, k);
    }

    int count(int what) {
        return noted(x.count(what), "count", what);
    }
}
