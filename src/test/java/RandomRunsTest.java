import java.util.Arrays;
import java.util.Random;

/**
 * Runs of random calls, the same every time, on the class and on the plain one, compared call by call. An
 * object gets at most 512 of them, as nothing is promised about later ones.
 */
public final class RandomRunsTest {
    private static final int RUNS = 3000;
    private static final int MOST_CALLS = 512;
    // Behind so many calls no text is begun any more, as it may take all that are left.
    private static final int LAST_TEXT = 230;
    private static final Check check = new Check();
    // What the runs must have come across, or they would show little.
    private static final int[] roads = new int[5];
    private static final int[] layers = new int[13];
    private static final int[] windows = new int[18];
    private static final int[] dids = new int[3];
    private static int told = 0;
    private static int faults = 0;
    private static int full = 0;

    private final Random random;
    private final LoanLayers x = new LoanLayers();
    private final PlainLayers y = new PlainLayers();
    private final String name;
    private final int letters;
    private final int crowd;
    // Most that happens is between the first two tongues then, so that windows and layers are many.
    private final boolean narrow;
    private int calls = 0;

    private RandomRunsTest(int seed) {
        random = new Random(seed);
        name = "run " + seed + ": ";
        letters = 2 + seed % 3;
        crowd = seed % 5;
        narrow = seed % 2 == 1;
    }

    public static void main(String[] args) {
        int runs = args.length > 0 ? Integer.parseInt(args[0]) : RUNS;
        for (int seed = 0; seed < runs; seed++) {
            new RandomRunsTest(seed).run();
            new RandomRunsTest(seed).eras();
            new RandomRunsTest(seed).texts();
        }
        for (int i = 0; i < roads.length; i++) check.holds("roads of " + (i - 1) + " steps were seen", roads[i] > 0);
        for (int i = 0; i < 6; i++) check.holds("layer " + i + " was seen", layers[i] > 0);
        for (int i = 0; i < 4; i++) check.holds(i + " windows were seen", windows[i] > 0);
        for (int i = 0; i < dids.length; i++) check.holds("did answered " + i, dids[i] > 0);
        System.out.println("roads " + Arrays.toString(roads) + ", layers " + Arrays.toString(layers)
            + ", windows " + Arrays.toString(windows) + ", did " + Arrays.toString(dids)
            + ", told " + told + ", faults " + faults + ", full " + full);
        check.holds("texts were told", told > 1000);
        check.holds("texts had faults", faults > 1000);
        check.holds("there was no room", full > 100);
        check.end();
    }

    private int dice(int sides) {
        return random.nextInt(sides);
    }

    /** A number from low to high, or, now and then, one just outside or far away. */
    private int near(int low, int high) {
        int n = dice(60);
        if (n == 0) return low - 1;
        if (n == 1) return high + 1;
        if (n == 2) return dice(2) == 0 ? Integer.MIN_VALUE : Integer.MAX_VALUE;
        if (n == 3) return low - 2;
        return low + dice(high - low + 1);
    }

    private int due(String what, int got, int want) {
        calls++;
        check.holds(name + "at most 512 calls", calls <= MOST_CALLS);
        check.due(name + what, got, want);
        return want;
    }

    private int tongue() {
        return near(0, narrow && dice(6) > 0 ? 1 : 3);
    }

    private int letter() {
        return dice(40) == 0 ? near(0, 25) : dice(letters);
    }

    private int date() {
        return crowd < 3 ? near(0, 99) : near(0, 3 + 4 * crowd);
    }

    private int loan() {
        return near(0, Math.max(0, y.count(2) - 1));
    }

    private int lawNumber() {
        return near(0, Math.max(0, y.count(0) - 1));
    }

    private void run() {
        due("new", x.count(0), 0);
        typeText(world());
        due("tell() of the first text", x.tell(), y.tell());
        while (calls < MOST_CALLS) {
            int n = dice(100);
            if (n < 8 && calls < LAST_TEXT) text();
            else if (n < 30) act();
            else ask();
        }
    }

    /** Texts upon texts, with an act between, and a look at what they have told. */
    private void texts() {
        while (calls < LAST_TEXT) {
            text();
            act();
        }
        for (int i = 0; i < 50 && calls < MOST_CALLS; i++) ask();
    }

    /** Many laws of two tongues, and short words borrowed at many dates: many windows and layers. */
    private void eras() {
        StringBuilder b = new StringBuilder("meet 0 1 0 99;meet 2 1 10 90");
        for (int n = 0; n < 9; n++) b.append(";law ").append(n % 2).append(lawText().substring(5));
        typeText(b.append(";loan 0 1 ").append(word(1, letters)).append(" a").toString());
        due("tell() of " + b, x.tell(), y.tell());
        for (int n = 0; n < 11; n++) {
            int from = dice(3) == 0 ? 2 : 0;
            int date = dice(100);
            due("lend" + args(0, from, 1, date), x.lend(0, from, 1, date), y.lend(0, from, 1, date));
        }
        while (calls < MOST_CALLS) ask();
    }

    private void typeText(String text) {
        for (int i = 0; i < text.length(); i++) {
            if (due("type", x.type(text.charAt(i)), y.type(text.charAt(i))) == -5) full++;
        }
    }

    private String word(int low, int high) {
        StringBuilder b = new StringBuilder();
        int length = low + dice(high - low + 1);
        for (int i = 0; i < length; i++) b.append((char) ('a' + dice(letters)));
        return b.toString();
    }

    private String clause() {
        int from = narrow && dice(3) > 0 ? dice(2) : dice(4);
        int to = narrow && dice(3) > 0 && from < 2 ? 1 - from : (from + 1 + dice(3)) % 4;
        switch (dice(12)) {
            case 0: return dice(4) == 0 ? "all" : "meet " + from + to + " 0 99";
            case 1:
            case 2: return meet(from, to);
            case 3:
            case 4: return "loan " + from + " " + to + " " + word(1, 8) + " " + (dice(4) == 0 ? "-" : word(1, 10));
            case 5: return "loan " + from + " " + to + " " + word(1, 3) + " " + word(1, 2);
            default: return lawText();
        }
    }

    private String meet(int from, int to) {
        int a = dice(100);
        return "meet " + from + " " + to + " " + a + " " + (a + dice(100 - a));
    }

    private String lawText() {
        int x = dice(letters);
        int y = (x + 1 + dice(letters)) % (letters + 1);
        String become = y == letters ? "-" : "" + (char) ('a' + y);
        String where = dice(2) == 0 ? "." : (dice(2) == 0 ? "<" : "> ") + (char) ('a' + dice(letters));
        int date = crowd < 3 ? 1 + dice(99) : 1 + dice(3 + 4 * crowd);
        return "law " + (narrow ? dice(2) : dice(4)) + " " + date + " " + (char) ('a' + x) + " " + become + where;
    }

    /** A text that is right, mostly, and makes many meetings. */
    private String world() {
        StringBuilder b = new StringBuilder();
        for (int i = 0; i < 4; i++) b.append("meet").append(i).append(' ').append((i + 1) % 4).append(" 0 99;");
        for (int i = 0; i < 5; i++) b.append(lawText()).append(';');
        return b.append("loan 0 1 ").append(word(2, 4)).append(' ').append(word(1, 3)).toString();
    }

    private void text() {
        StringBuilder b = new StringBuilder(clause());
        for (int n = dice(5); n > 0; n--) b.append(dice(3) == 0 ? " ; " : ";").append(clause());
        if (dice(20) == 0) for (int n = 20 + dice(6); n > 0; n--) b.insert(0, "all;");
        if (dice(2) == 0) spoil(b);
        typeText(b.toString());
        if (due("fault() of " + b, x.fault(), y.fault()) >= 0) faults++;
        if (dice(3) > 0 && due("tell() of " + b, x.tell(), y.tell()) >= 0) told++;
        due("count(8)", x.count(8), y.count(8));
        due("erase()", x.erase(), y.erase());
    }

    private void spoil(StringBuilder b) {
        String signs = " ;.<>-0123456789abclwmeot";
        for (int n = 1 + dice(3); n > 0 && b.length() > 0; n--) {
            int place = dice(b.length());
            char sign = dice(20) == 0 ? (char) dice(256) : signs.charAt(dice(signs.length()));
            switch (dice(4)) {
                case 0: b.deleteCharAt(place); break;
                case 1: b.insert(place, sign); break;
                case 2: b.setCharAt(place, sign); break;
                default: if (dice(3) == 0) b.setLength(place);
            }
        }
    }

    private void act() {
        int a = tongue();
        int b = tongue();
        int c = date();
        int d = dice(3) == 0 ? date() : 99 - dice(2);
        int e = letter();
        int f = dice(4) == 0 ? -1 : letter();
        int g = near(0, 2);
        int h = loan();
        int got;
        switch (narrow && dice(3) == 0 ? 9 : dice(14)) {
            case 0:
            case 1:
            case 2:
            case 3:
                got = due("law" + args(a, c, e, f, g, b), x.law(a, c, e, f, g, b), y.law(a, c, e, f, g, b));
                break;
            case 4: got = due("repeal", x.repeal(e), y.repeal(e)); break;
            case 5:
            case 6:
            case 7: got = due("meet" + args(a, b, c, d), x.meet(a, b, c, d), y.meet(a, b, c, d)); break;
            case 8: got = due("part" + args(a, b), x.part(a, b), y.part(a, b)); break;
            case 9:
            case 10: got = due("lend" + args(h, a, b, c), x.lend(h, a, b, c), y.lend(h, a, b, c)); break;
            case 11: got = due("drop" + args(h), x.drop(h), y.drop(h)); break;
            case 12: got = due("undo()", x.undo(), y.undo()); break;
            default: got = states();
        }
        if (got == -5) full++;
    }

    private int states() {
        int k = near(0, 1);
        if (dice(2) == 0) return due("keep" + args(k), x.keep(k), y.keep(k));
        return dice(3) == 0 ? due("back" + args(k), x.back(k), y.back(k)) : due("undo()", x.undo(), y.undo());
    }

    private static String args(int... numbers) {
        StringBuilder b = new StringBuilder("(");
        for (int i = 0; i < numbers.length; i++) b.append(i == 0 ? "" : ", ").append(numbers[i]);
        return b.append(")").toString();
    }

    private void ask() {
        int a = loan();
        int b = loan();
        int c = tongue();
        int d = tongue();
        int e = date();
        int f = date();
        int l = lawNumber();
        int i = near(-1, 8);
        int w;
        switch (dice(12)) {
            case 0: w = near(0, 5); due("told" + args(l, w), x.told(l, w), y.told(l, w)); break;
            case 1: w = near(0, 1); due("meeting" + args(c, d, w), x.meeting(c, d, w), y.meeting(c, d, w)); break;
            case 2: askLoan(a, near(0, 9)); break;
            case 3: w = near(0, 1); due("sound" + args(a, w, i), x.sound(a, w, i), y.sound(a, w, i)); break;
            case 4: w = near(0, 1); due("window" + args(a, i, w), x.window(a, i, w), y.window(a, i, w)); break;
            case 5: due("taken" + args(a, e, i), x.taken(a, e, i), y.taken(a, e, i)); break;
            case 6: due("gone" + args(a, c, e, f, i), x.gone(a, c, e, f, i), y.gone(a, c, e, f, i)); break;
            case 7: w = due("did" + args(a, l, e), x.did(a, l, e), y.did(a, l, e)); if (w >= 0) dids[w]++; break;
            case 8: due("older" + args(a, b), x.older(a, b), y.older(a, b)); break;
            case 9:
            case 10: askRoad(a, c, b, d, near(-1, 3)); break;
            default: w = near(0, 12); due("count" + args(w), x.count(w), y.count(w));
        }
    }

    private void askLoan(int loan, int what) {
        int got = due("loan" + args(loan, what), x.loan(loan, what), y.loan(loan, what));
        if (what == 8 && got >= 0) layers[got]++;
        if (what == 5 && got >= 0) windows[got]++;
    }

    private void askRoad(int a, int c, int b, int d, int k) {
        int got = due("road" + args(a, c, b, d, k), x.road(a, c, b, d, k), y.road(a, c, b, d, k));
        if (k == -1 && got >= -1) roads[got + 1]++;
    }
}
