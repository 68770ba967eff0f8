import java.util.ArrayDeque;
import java.util.ArrayList;
import java.util.Deque;
import java.util.HashMap;
import java.util.List;
import java.util.Map;
import java.util.TreeMap;

/**
 * The document written down once more, as literally and as slowly as it likes: forms are Strings, every
 * date is tried, ways are found by carrying all forms through all dates. RandomRunsTest compares.
 */
final class PlainLayers {
    record Law(int tongue, int date, int x, int y, int where, int z) {
        String apply(String form) {
            StringBuilder after = new StringBuilder();
            for (int i = 0; i < form.length(); i++) {
                boolean hit = form.charAt(i) - 'a' == x;
                if (where == 1) hit = hit && i + 1 < form.length() && form.charAt(i + 1) - 'a' == z;
                if (where == 2) hit = hit && i > 0 && form.charAt(i - 1) - 'a' == z;
                if (!hit) after.append(form.charAt(i));
                else if (y != -1) after.append((char) ('a' + y));
            }
            return after.toString();
        }
    }

    record Loan(int from, int to, String word, String end) { }

    record State(TreeMap<Integer, Law> laws, TreeMap<Integer, int[]> meetings, List<Loan> loans) {
        State copy() {
            return new State(new TreeMap<>(laws), new TreeMap<>(meetings), new ArrayList<>(loans));
        }

        List<Law> lawList() {
            return new ArrayList<>(laws.values());
        }
    }

    private State s = new State(new TreeMap<>(), new TreeMap<>(), new ArrayList<>());
    private final State[] saved = new State[2];
    private final Deque<State> past = new ArrayDeque<>();
    private final StringBuilder text = new StringBuilder();
    // Kept only because RandomRunsTest would take minutes without; every act makes a new state.
    private final Map<Loan, List<Integer>> fitting = new HashMap<>();
    private State fittingOf = null;

    int type(int letter) {
        if (letter < 0 || letter > 255) return -3;
        if (text.length() == 200) return -5;
        text.append((char) letter);
        return text.length();
    }

    int erase() {
        int length = text.length();
        text.setLength(0);
        return length;
    }

    int fault() {
        return new Reader(text.toString(), s.copy()).fault();
    }

    int tell() {
        Reader reader = new Reader(text.toString(), s.copy());
        if (reader.fault() != -1) return -4;
        s = reader.state;
        past.clear();
        text.setLength(0);
        return reader.clauses;
    }

    private void remember() {
        past.addLast(s);
        s = s.copy();
        if (past.size() > 8) past.removeFirst();
    }

    int law(int tongue, int date, int x, int y, int where, int z) {
        if (tongue < 0 || tongue > 3) return -2;
        if (date < 1 || date > 99 || x < 0 || x > 25 || y < -1 || y > 25 || where < 0 || where > 2) return -3;
        if (where > 0 && (z < 0 || z > 25)) return -3;
        if (x == y || s.laws.containsKey(date * 4 + tongue)) return -4;
        if (s.laws.size() == 16) return -5;
        remember();
        s.laws.put(date * 4 + tongue, new Law(tongue, date, x, y, where, where == 0 ? -1 : z));
        return s.laws.headMap(date * 4 + tongue).size();
    }

    int repeal(int law) {
        if (law < 0 || law >= s.laws.size()) return -2;
        remember();
        s.laws.remove(new ArrayList<>(s.laws.keySet()).get(law));
        return s.laws.size();
    }

    private static boolean noPair(int from, int to) {
        return from < 0 || from > 3 || to < 0 || to > 3 || from == to;
    }

    int meet(int from, int to, int a, int b) {
        if (noPair(from, to)) return -2;
        if (a < 0 || a > 99 || b < a || b > 99) return -3;
        remember();
        s.meetings.put(from * 4 + to, new int[] {a, b});
        return s.meetings.size();
    }

    int part(int from, int to) {
        if (noPair(from, to) || !s.meetings.containsKey(from * 4 + to)) return -2;
        remember();
        s.meetings.remove(from * 4 + to);
        return s.meetings.size();
    }

    int lend(int loan, int from, int to, int date) {
        if (noLoan(loan) || noPair(from, to)) return -2;
        if (date < 0 || date > 99) return -3;
        if (s.loans.size() == 12) return -5;
        remember();
        String word = s.loans.get(loan).word;
        s.loans.add(new Loan(from, to, word, result(word, from, to, date)));
        return s.loans.size();
    }

    int drop(int loan) {
        if (noLoan(loan)) return -2;
        remember();
        s.loans.remove(loan);
        return s.loans.size();
    }

    int undo() {
        if (past.isEmpty()) return -4;
        s = past.removeLast();
        return past.size();
    }

    int keep(int k) {
        if (k != 0 && k != 1) return -3;
        saved[k] = s;
        return s.laws.size();
    }

    int back(int k) {
        if (k != 0 && k != 1) return -3;
        if (saved[k] == null) return -4;
        s = saved[k];
        past.clear();
        return s.laws.size();
    }

    int told(int law, int what) {
        if (law < 0 || law >= s.laws.size()) return -2;
        if (what < 0 || what > 5) return -3;
        Law l = s.lawList().get(law);
        return new int[] {l.tongue, l.date, l.x, l.y, l.where, l.z}[what];
    }

    int meeting(int from, int to, int what) {
        if (noPair(from, to) || !s.meetings.containsKey(from * 4 + to)) return -2;
        if (what != 0 && what != 1) return -3;
        return s.meetings.get(from * 4 + to)[what];
    }

    private boolean noLoan(int loan) {
        return loan < 0 || loan >= s.loans.size();
    }

    private String develop(String form, int tongue, int d, int e) {
        for (int date = d + 1; date <= e; date++) {
            Law law = s.laws.get(date * 4 + tongue);
            if (law != null) form = law.apply(form);
        }
        return form;
    }

    private String result(String word, int from, int to, int date) {
        return develop(develop(word, from, 0, date), to, date, 99);
    }

    private List<Integer> fitting(Loan loan) {
        if (fittingOf != s) {
            fitting.clear();
            fittingOf = s;
        }
        return fitting.computeIfAbsent(loan, this::tryAllDates);
    }

    private List<Integer> tryAllDates(Loan loan) {
        List<Integer> dates = new ArrayList<>();
        int[] meeting = s.meetings.get(loan.from * 4 + loan.to);
        for (int d = 0; meeting != null && d <= 99; d++) {
            boolean met = meeting[0] <= d && d <= meeting[1];
            if (met && result(loan.word, loan.from, loan.to, d).equals(loan.end)) dates.add(d);
        }
        return dates;
    }

    private List<int[]> windows(Loan loan) {
        List<int[]> found = new ArrayList<>();
        List<Integer> dates = fitting(loan);
        for (int d : dates) {
            if (dates.contains(d - 1)) found.get(found.size() - 1)[1] = d;
            else found.add(new int[] {d, d});
        }
        return found;
    }

    private boolean isOlder(Loan a, Loan b) {
        List<Integer> first = fitting(a);
        List<Integer> second = fitting(b);
        if (a.to != b.to || first.isEmpty() || second.isEmpty()) return false;
        return first.get(first.size() - 1) < second.get(0);
    }

    private int layer(Loan loan) {
        if (fitting(loan).isEmpty()) return 0;
        int layer = 1;
        for (Loan other : s.loans) {
            if (other != loan && isOlder(other, loan)) layer = Math.max(layer, 1 + layer(other));
        }
        return layer;
    }

    int loan(int loan, int what) {
        if (noLoan(loan)) return -2;
        if (what < 0 || what > 9) return -3;
        Loan l = s.loans.get(loan);
        List<Integer> dates = fitting(l);
        switch (what) {
            case 0: return l.from;
            case 1: return l.to;
            case 2: return l.word.length();
            case 3: return l.end.length();
            case 4: return Math.min(2, windows(l).size());
            case 5: return windows(l).size();
            case 6: return dates.isEmpty() ? -1 : dates.get(0);
            case 7: return dates.isEmpty() ? -1 : dates.get(dates.size() - 1);
            case 8: return layer(l);
            default: return (int) s.loans.stream().filter(o -> o != l && isOlder(o, l)).count();
        }
    }

    private static int at(String form, int i) {
        return i < 0 || i >= form.length() ? -2 : form.charAt(i) - 'a';
    }

    int sound(int loan, int what, int i) {
        if (noLoan(loan)) return -2;
        if (what != 0 && what != 1) return -3;
        return at(what == 0 ? s.loans.get(loan).word : s.loans.get(loan).end, i);
    }

    int window(int loan, int k, int what) {
        if (noLoan(loan)) return -2;
        List<int[]> found = windows(s.loans.get(loan));
        if (k < 0 || k >= found.size()) return -2;
        if (what != 0 && what != 1) return -3;
        return found.get(k)[what];
    }

    int taken(int loan, int date, int i) {
        if (noLoan(loan)) return -2;
        if (date < 0 || date > 99) return -3;
        Loan l = s.loans.get(loan);
        String form = result(l.word, l.from, l.to, date);
        return i == -1 ? form.length() : at(form, i);
    }

    int gone(int loan, int tongue, int d, int e, int i) {
        if (noLoan(loan) || tongue < 0 || tongue > 3) return -2;
        if (d < 0 || d > 99 || e < 0 || e > 99) return -3;
        String form = develop(s.loans.get(loan).word, tongue, d, e);
        return i == -1 ? form.length() : at(form, i);
    }

    int did(int loan, int law, int date) {
        if (noLoan(loan) || law < 0 || law >= s.laws.size()) return -2;
        Loan l = s.loans.get(loan);
        Law w = s.lawList().get(law);
        if (w.tongue != l.to) return -2;
        if (date < 0 || date > 99) return -3;
        String taken = develop(l.word, l.from, 0, date);
        if (w.date <= date) return w.apply(taken).equals(taken) ? 0 : 2;
        String then = develop(taken, l.to, date, w.date - 1);
        return w.apply(then).equals(then) ? 0 : 1;
    }

    int older(int loan, int other) {
        if (noLoan(loan) || noLoan(other)) return -2;
        return loan != other && isOlder(s.loans.get(loan), s.loans.get(other)) ? 1 : 0;
    }

    /** Where a form can be, and after how many steps. */
    record Spot(int tongue, String form, int steps) { }

    private static void offer(Map<Spot, List<Integer>> at, Spot spot, List<Integer> way) {
        List<Integer> there = at.get(spot);
        if (there == null || comesBefore(way, there)) at.put(spot, way);
    }

    private static boolean comesBefore(List<Integer> a, List<Integer> b) {
        for (int i = 0; i < a.size(); i++) {
            if (!a.get(i).equals(b.get(i))) return a.get(i) < b.get(i);
        }
        return false;
    }

    int road(int word, int from, int end, int to, int k) {
        if (noLoan(word) || noLoan(end) || from < 0 || from > 3 || to < 0 || to > 3) return -2;
        if (k < -1) return -3;
        Map<Spot, List<Integer>> at = new HashMap<>();
        at.put(new Spot(from, s.loans.get(word).word, 0), List.of());
        for (int date = 0; date <= 99; date++) {
            Map<Spot, List<Integer>> then = new HashMap<>();
            for (Map.Entry<Spot, List<Integer>> e : at.entrySet()) {
                Spot spot = e.getKey();
                Law law = s.laws.get(date * 4 + spot.tongue);
                String form = law == null ? spot.form : law.apply(spot.form);
                offer(then, new Spot(spot.tongue, form, spot.steps), e.getValue());
            }
            for (int steps = 0; steps < 3; steps++) borrow(then, steps, date);
            at = then;
        }
        for (int steps = 0; steps <= 3; steps++) {
            List<Integer> way = at.get(new Spot(to, s.loans.get(end).end, steps));
            if (way != null) return k == -1 ? steps : k < steps ? way.get(k) : -1;
        }
        return -1;
    }

    private void borrow(Map<Spot, List<Integer>> at, int steps, int date) {
        for (Map.Entry<Spot, List<Integer>> e : new ArrayList<>(at.entrySet())) {
            Spot spot = e.getKey();
            if (spot.steps != steps) continue;
            for (int u = 0; u < 4; u++) {
                int[] meeting = s.meetings.get(spot.tongue * 4 + u);
                if (meeting == null || date < meeting[0] || date > meeting[1]) continue;
                List<Integer> way = new ArrayList<>(e.getValue());
                way.add(4 * date + u);
                offer(at, new Spot(u, spot.form, steps + 1), way);
            }
        }
    }

    int count(int what) {
        if (what < 0 || what > 12) return -3;
        if (what == 0) return s.laws.size();
        if (what == 1) return s.meetings.size();
        if (what == 2) return s.loans.size();
        if (what <= 5) return (int) s.loans.stream().filter(l -> Math.min(2, windows(l).size()) == what - 3).count();
        if (what == 6) return s.loans.stream().mapToInt(this::layer).max().orElse(0);
        if (what == 7) return past.size();
        if (what == 8) return text.length();
        return (int) s.laws.values().stream().filter(l -> l.tongue == what - 9).count();
    }

    /** Reads a text by first cutting it into tokens. */
    private static final class Reader {
        private static final class Fault extends RuntimeException {
            private static final long serialVersionUID = 1L;
            final int place;

            Fault(int place) {
                this.place = place;
            }
        }

        final State state;
        int clauses = 0;
        private final List<String> tokens = new ArrayList<>();
        private final List<Integer> places = new ArrayList<>();
        private int at = 0;

        Reader(String text, State state) {
            this.state = state;
            java.util.regex.Matcher m = java.util.regex.Pattern
                .compile("[a-z]+|[0-9]+|[^ ]", java.util.regex.Pattern.DOTALL).matcher(text);
            while (m.find()) {
                tokens.add(m.group());
                places.add(m.start());
            }
            places.add(text.length());
        }

        int fault() {
            try {
                clause();
                while (at < tokens.size()) {
                    take(token().equals(";") && clauses < 24);
                    clause();
                }
                return -1;
            } catch (Fault f) {
                return f.place;
            }
        }

        private String token() {
            return at < tokens.size() ? tokens.get(at) : "";
        }

        private String take(boolean right) {
            if (!right) throw new Fault(places.get(at));
            return tokens.get(at++);
        }

        private int number(int low, int high) {
            if (!token().matches("[0-9]{1,2}")) throw new Fault(places.get(at));
            int n = Integer.parseInt(token());
            if (n < low || n > high) throw new Fault(places.get(at));
            return n;
        }

        private void clause() {
            String word = token();
            take(List.of("all", "law", "meet", "loan").contains(word)
                && !(word.equals("law") && state.laws.size() == 16)
                && !(word.equals("loan") && state.loans.size() == 12));
            if (word.equals("all")) {
                state.laws.clear();
                state.meetings.clear();
                state.loans.clear();
            } else if (word.equals("law")) law();
            else pair(word);
            clauses++;
        }

        private void law() {
            int t = number(0, 3);
            at++;
            int d = number(1, 99);
            take(!state.laws.containsKey(4 * d + t));
            String x = take(token().matches("[a-z]"));
            String y = take(token().matches("[a-z]|-") && !token().equals(x));
            String w = take(token().matches("[.<>]"));
            int z = w.equals(".") ? -1 : take(token().matches("[a-z]")).charAt(0) - 'a';
            int where = ".><".indexOf(w);
            int become = y.equals("-") ? -1 : y.charAt(0) - 'a';
            state.laws.put(4 * d + t, new Law(t, d, x.charAt(0) - 'a', become, where, z));
        }

        private void pair(String word) {
            int from = number(0, 3);
            at++;
            int to = number(0, 3);
            take(to != from);
            if (word.equals("meet")) {
                int a = number(0, 99);
                at++;
                int b = number(a, 99);
                at++;
                state.meetings.put(4 * from + to, new int[] {a, b});
            } else {
                String w = take(token().matches("[a-z]{1,8}"));
                String e = take(token().matches("[a-z]{1,10}|-"));
                state.loans.add(new Loan(from, to, w, e.equals("-") ? "" : e));
            }
        }
    }
}
