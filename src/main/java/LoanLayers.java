/**
 * Dates loanwords by sound changes. What each method promises stands in the document, DOC.md.
 *
 * <p>A language is called a tongue here, a sound change a law, and a contact a meeting.
 */
public final class LoanLayers {
    public static final int NONE = -1, UNKNOWN = -2, OUTSIDE = -3, NOT = -4, FULL = -5;

    private static final int TONGUES = 4;
    private static final int PAIRS = TONGUES * TONGUES;
    private static final int SOUNDS = 26;
    private static final int LAST_DATE = 99;
    private static final int EVERYWHERE = 0, BEFORE = 1, AFTER = 2;
    private static final int MOST_LAWS = 16;
    private static final int MOST_LOANS = 12;
    private static final int MOST_ACTS = 8;
    private static final int MOST_SAVED = 2;
    private static final int MOST_STEPS = 3;
    private static final int MOST_BYTES = 200;
    private static final int MOST_CLAUSES = 24;
    private static final int MOST_IN_WORD = 8;
    private static final int MOST_IN_FORM = 10;

    // A world that has once been here is never changed again: the past and the saved states share it.
    private World now = new World();
    private final Past past = new Past();
    private final World[] saved = new World[MOST_SAVED];
    private final Text text = new Text();
    private final Windows windows = new Windows();
    private final Layers layers = new Layers();
    private final Way way = new Way();

    public LoanLayers() {
    }

    // ---- what is told

    public int type(int letter) {
        if (!within(letter, 0, 255)) return OUTSIDE;
        if (text.length >= MOST_BYTES) return FULL;
        text.append(letter);
        return text.length;
    }

    public int erase() {
        int length = text.length;
        text.clear();
        return length;
    }

    public int fault() {
        return text.read(now.copy());
    }

    public int tell() {
        World next = now.copy();
        if (text.read(next) != NONE) return NOT;
        now = next;
        past.clear();
        text.clear();
        return text.clauses;
    }

    // ---- what is done

    public int law(int tongue, int date, int x, int y, int where, int z) {
        if (!isTongue(tongue)) return UNKNOWN;
        if (!within(date, 1, LAST_DATE) || !isSound(x) || (y != NONE && !isSound(y))) return OUTSIDE;
        if (!within(where, EVERYWHERE, AFTER) || (where != EVERYWHERE && !isSound(z))) return OUTSIDE;
        if (x == y || now.hasLaw(tongue, date)) return NOT;
        if (now.lawCount >= MOST_LAWS) return FULL;
        World next = now.copy();
        int number = next.addLaw(new Law(tongue, date, x, y, where, z));
        act(next);
        return number;
    }

    public int repeal(int law) {
        if (now.lawAt(law) == null) return UNKNOWN;
        World next = now.copy();
        next.removeLaw(law);
        act(next);
        return now.lawCount;
    }

    public int meet(int from, int to, int a, int b) {
        int pair = pairOf(from, to);
        if (pair == NONE) return UNKNOWN;
        if (!isDate(a) || !within(b, a, LAST_DATE)) return OUTSIDE;
        World next = now.copy();
        next.setMeeting(pair, a, b);
        act(next);
        return now.meetings();
    }

    public int part(int from, int to) {
        int pair = pairOf(from, to);
        if (now.firstOf(pair) == NONE) return UNKNOWN;
        World next = now.copy();
        next.setMeeting(pair, NONE, NONE);
        act(next);
        return now.meetings();
    }

    public int lend(int loan, int from, int to, int date) {
        Loan lent = now.loanAt(loan);
        if (lent == null || pairOf(from, to) == NONE) return UNKNOWN;
        if (!isDate(date)) return OUTSIDE;
        if (now.loanCount >= MOST_LOANS) return FULL;
        World next = now.copy();
        next.addLoan(new Loan(from, to, lent.word, now.borrowed(lent.word, from, to, date)));
        act(next);
        return now.loanCount;
    }

    public int drop(int loan) {
        if (now.loanAt(loan) == null) return UNKNOWN;
        World next = now.copy();
        next.removeLoan(loan);
        act(next);
        return now.loanCount;
    }

    public int undo() {
        World before = past.latest();
        if (before == null) return NOT;
        past.forgetLatest();
        now = before;
        return past.size;
    }

    public int keep(int k) {
        if (!within(k, 0, MOST_SAVED - 1)) return OUTSIDE;
        saved[k] = now;
        return now.lawCount;
    }

    public int back(int k) {
        if (!within(k, 0, MOST_SAVED - 1)) return OUTSIDE;
        World kept = saved[k];
        if (kept == null) return NOT;
        now = kept;
        past.clear();
        return now.lawCount;
    }

    private void act(World next) {
        past.add(now);
        now = next;
    }

    // ---- what there is

    public int told(int law, int what) {
        Law one = now.lawAt(law);
        if (one == null) return UNKNOWN;
        switch (what) {
            case 0: return one.tongue;
            case 1: return one.date;
            case 2: return one.x;
            case 3: return one.y;
            case 4: return one.where;
            case 5: return one.z;
            default: return OUTSIDE;
        }
    }

    public int meeting(int from, int to, int what) {
        int pair = pairOf(from, to);
        if (now.firstOf(pair) == NONE) return UNKNOWN;
        if (!within(what, 0, 1)) return OUTSIDE;
        return what == 0 ? now.firstOf(pair) : now.lastOf(pair);
    }

    public int loan(int loan, int what) {
        Loan one = now.loanAt(loan);
        if (one == null) return UNKNOWN;
        switch (what) {
            case 0: return one.from;
            case 1: return one.to;
            case 2: return Form.length(one.word);
            case 3: return Form.length(one.end);
            case 4: return windows.of(now, one).kind();
            case 5: return windows.of(now, one).number;
            case 6: return windows.of(now, one).earliest();
            case 7: return windows.of(now, one).latest();
            case 8: return layers.of(now, windows).layerOf(loan);
            case 9: return layers.of(now, windows).olderThan(loan);
            default: return OUTSIDE;
        }
    }

    public int sound(int loan, int what, int i) {
        Loan one = now.loanAt(loan);
        if (one == null) return UNKNOWN;
        if (!within(what, 0, 1)) return OUTSIDE;
        int sound = Form.soundAt(what == 0 ? one.word : one.end, i);
        return sound == NONE ? UNKNOWN : sound;
    }

    // ---- what is found

    public int window(int loan, int k, int what) {
        Loan one = now.loanAt(loan);
        if (one == null) return UNKNOWN;
        int first = windows.of(now, one).firstOf(k);
        if (first == NONE) return UNKNOWN;
        if (!within(what, 0, 1)) return OUTSIDE;
        return what == 0 ? first : windows.lastOf(k);
    }

    public int taken(int loan, int date, int i) {
        Loan one = now.loanAt(loan);
        if (one == null) return UNKNOWN;
        if (!isDate(date)) return OUTSIDE;
        return soundOrNumber(now.borrowed(one.word, one.from, one.to, date), i);
    }

    public int gone(int loan, int tongue, int d, int e, int i) {
        Loan one = now.loanAt(loan);
        if (one == null || !isTongue(tongue)) return UNKNOWN;
        if (!isDate(d) || !isDate(e)) return OUTSIDE;
        return soundOrNumber(now.developed(one.word, tongue, d, e), i);
    }

    public int did(int loan, int law, int date) {
        Loan one = now.loanAt(loan);
        Law done = now.lawAt(law);
        if (one == null || done == null || done.tongue != one.to) return UNKNOWN;
        if (!isDate(date)) return OUTSIDE;
        long taken = now.developed(one.word, one.from, 0, date);
        if (done.date <= date) return done.affects(taken) ? 2 : 0;
        return done.affects(now.developed(taken, one.to, date, done.date - 1)) ? 1 : 0;
    }

    public int older(int loan, int other) {
        if (now.loanAt(loan) == null || now.loanAt(other) == null) return UNKNOWN;
        return layers.of(now, windows).isOlder(loan, other) ? 1 : 0;
    }

    public int road(int word, int from, int end, int to, int k) {
        Loan first = now.loanAt(word);
        Loan last = now.loanAt(end);
        if (first == null || last == null || !isTongue(from) || !isTongue(to)) return UNKNOWN;
        if (k < NONE) return OUTSIDE;
        way.find(now, first.word, from, last.end, to);
        return k == NONE ? way.number : way.stepAt(k);
    }

    public int count(int what) {
        switch (what) {
            case 0: return now.lawCount;
            case 1: return now.meetings();
            case 2: return now.loanCount;
            case 3:
            case 4:
            case 5: return loansOfKind(what - 3);
            case 6: return layers.of(now, windows).greatest();
            case 7: return past.size;
            case 8: return text.length;
            case 9:
            case 10:
            case 11:
            case 12: return now.lawsOf(what - 9);
            default: return OUTSIDE;
        }
    }

    private int loansOfKind(int kind) {
        int number = 0;
        for (int i = 0; i < MOST_LOANS; i++) {
            Loan one = now.loanAt(i);
            if (one != null && windows.of(now, one).kind() == kind) number++;
        }
        return number;
    }

    private static int soundOrNumber(long form, int i) {
        if (i == NONE) return Form.length(form);
        int sound = Form.soundAt(form, i);
        return sound == NONE ? UNKNOWN : sound;
    }

    private static boolean within(int number, int low, int high) {
        return low <= number && number <= high;
    }

    private static boolean isTongue(int number) {
        return 0 <= number && number < TONGUES;
    }

    private static boolean isDate(int number) {
        return within(number, 0, LAST_DATE);
    }

    private static boolean isSound(int number) {
        return within(number, 0, SOUNDS - 1);
    }

    /** The place of the meeting of two tongues, or NONE if they can have none. */
    private static int pairOf(int from, int to) {
        return isTongue(from) && isTongue(to) && from != to ? from * TONGUES + to : NONE;
    }

    /**
     * Forms are held in a long each, so that no call has to make rows for them: five bits a sound,
     * the first sound lowest, each sound 1 more than its number, and 0 behind the last one.
     */
    private static final class Form {
        static final long EMPTY = 0L;
        static final long NO_FORM = -1L;
        private static final int BITS = 5;
        private static final int MASK = 31;

        static int soundAt(long form, int i) {
            if (i < 0 || i >= MOST_IN_FORM) return NONE;
            return (int) (form >>> (BITS * i) & MASK) - 1;
        }

        static int length(long form) {
            int length = 0;
            while (length < MOST_IN_FORM && soundAt(form, length) != NONE) length++;
            return length;
        }

        /** The form with a sound put behind its last one, which stands at length - 1. */
        static long longer(long form, int length, int sound) {
            return form | (long) (sound + 1) << (BITS * length);
        }
    }

    /** A sound change. */
    private static final class Law {
        final int tongue, date, x, y, where, z;

        Law(int tongue, int date, int x, int y, int where, int z) {
            this.tongue = tongue;
            this.date = date;
            this.x = x;
            this.y = y;
            this.where = where;
            this.z = where == EVERYWHERE ? NONE : z;
        }

        boolean isBefore(Law other) {
            return other == null || date < other.date || (date == other.date && tongue < other.tongue);
        }

        boolean affects(long form) {
            return applied(form) != form;
        }

        long applied(long form) {
            long after = Form.EMPTY;
            int length = 0;
            int aside = where == BEFORE ? 1 : -1;
            for (int i = 0; i < MOST_IN_FORM; i++) {
                int sound = Form.soundAt(form, i);
                if (sound == NONE) break;
                boolean changes = sound == x && (where == EVERYWHERE || Form.soundAt(form, i + aside) == z);
                if (changes && y == NONE) continue;
                after = Form.longer(after, length, changes ? y : sound);
                length++;
            }
            return after;
        }
    }

    /** A loanword. */
    private static final class Loan {
        final int from, to;
        final long word, end;

        Loan(int from, int to, long word, long end) {
            this.from = from;
            this.to = to;
            this.word = word;
            this.end = end;
        }
    }

    /** The laws, meetings and loans of one state. Rows are null behind their last law or loan. */
    private static final class World {
        private final Law[] laws = new Law[MOST_LAWS];
        private final Loan[] loans = new Loan[MOST_LOANS];
        private final int[] first = new int[PAIRS];
        private final int[] last = new int[PAIRS];
        int lawCount = 0;
        int loanCount = 0;

        World() {
            for (int i = 0; i < PAIRS; i++) {
                first[i] = NONE;
                last[i] = NONE;
            }
        }

        World copy() {
            World copy = new World();
            for (int i = 0; i < MOST_LAWS; i++) copy.laws[i] = laws[i];
            for (int i = 0; i < MOST_LOANS; i++) copy.loans[i] = loans[i];
            for (int i = 0; i < PAIRS; i++) copy.setMeeting(i, first[i], last[i]);
            copy.lawCount = lawCount;
            copy.loanCount = loanCount;
            return copy;
        }

        void clear() {
            for (int i = 0; i < laws.length; i++) laws[i] = null;
            for (int i = 0; i < loans.length; i++) loans[i] = null;
            for (int i = 0; i < PAIRS; i++) setMeeting(i, NONE, NONE);
            lawCount = 0;
            loanCount = 0;
        }

        Law lawAt(int i) {
            return within(i, 0, laws.length - 1) ? laws[i] : null;
        }

        boolean hasLaw(int tongue, int date) {
            for (Law law : laws) {
                if (law != null && law.tongue == tongue && law.date == date) return true;
            }
            return false;
        }

        int lawsOf(int tongue) {
            int number = 0;
            for (Law law : laws) {
                if (law != null && law.tongue == tongue) number++;
            }
            return number;
        }

        /** Puts a law in its place, and answers its number. */
        int addLaw(Law law) {
            if (!within(lawCount, 0, laws.length - 1)) return NONE;
            int place = lawCount;
            while (place > 0 && law.isBefore(laws[place - 1])) {
                laws[place] = laws[place - 1];
                place--;
            }
            laws[place] = law;
            lawCount++;
            return place;
        }

        void removeLaw(int law) {
            if (lawAt(law) == null) return;
            for (int i = law; i < laws.length; i++) laws[i] = lawAt(i + 1);
            lawCount--;
        }

        int firstOf(int pair) {
            return within(pair, 0, first.length - 1) ? first[pair] : NONE;
        }

        int lastOf(int pair) {
            return within(pair, 0, last.length - 1) ? last[pair] : NONE;
        }

        void setMeeting(int pair, int a, int b) {
            if (!within(pair, 0, PAIRS - 1)) return;
            first[pair] = a;
            last[pair] = b;
        }

        int meetings() {
            int number = 0;
            for (int date : first) {
                if (date != NONE) number++;
            }
            return number;
        }

        boolean isMeeting(int pair, int date) {
            return firstOf(pair) != NONE && within(date, firstOf(pair), lastOf(pair));
        }

        Loan loanAt(int i) {
            return within(i, 0, loans.length - 1) ? loans[i] : null;
        }

        void addLoan(Loan loan) {
            if (!within(loanCount, 0, loans.length - 1)) return;
            loans[loanCount] = loan;
            loanCount++;
        }

        void removeLoan(int loan) {
            if (loanAt(loan) == null) return;
            for (int i = loan; i < loans.length; i++) loans[i] = loanAt(i + 1);
            loanCount--;
        }

        long developed(long form, int tongue, int d, int e) {
            long now = form;
            for (Law law : laws) {
                if (law != null && law.tongue == tongue && law.date > d && law.date <= e) now = law.applied(now);
            }
            return now;
        }

        long borrowed(long word, int from, int to, int date) {
            return developed(developed(word, from, 0, date), to, date, LAST_DATE);
        }
    }

    /** The worlds before the acts that can be undone, the latest last. */
    private static final class Past {
        private final World[] worlds = new World[MOST_ACTS];
        int size = 0;

        void add(World world) {
            if (size >= worlds.length) {
                for (int i = 1; i < worlds.length; i++) worlds[i - 1] = worlds[i];
                size = worlds.length - 1;
            }
            if (size >= 0) worlds[size] = world;
            size++;
        }

        World latest() {
            return within(size, 1, worlds.length) ? worlds[size - 1] : null;
        }

        void forgetLatest() {
            if (size > 0) size--;
        }

        void clear() {
            size = 0;
        }
    }

    /** The windows of one loan. */
    private static final class Windows {
        private final int[] first = new int[MOST_LAWS + 1];
        private final int[] last = new int[MOST_LAWS + 1];
        int number = 0;

        /** Tries one date between laws for all of them: only laws make the results differ. */
        Windows of(World world, Loan loan) {
            number = 0;
            int pair = pairOf(loan.from, loan.to);
            int start = world.firstOf(pair);
            int stop = world.lastOf(pair) + 1;
            if (start == NONE) return this;
            for (int i = 0; i <= MOST_LAWS; i++) {
                Law law = world.lawAt(i);
                int next = law == null ? stop : Math.min(law.date, stop);
                if (next <= start) continue;
                if (world.borrowed(loan.word, loan.from, loan.to, start) == loan.end) add(start, next - 1);
                start = next;
            }
            return this;
        }

        private void add(int from, int upTo) {
            if (number > 0 && lastOf(number - 1) == from - 1) number--;
            else if (within(number, 0, first.length - 1)) first[number] = from;
            if (within(number, 0, last.length - 1)) last[number] = upTo;
            number++;
        }

        int firstOf(int k) {
            return within(k, 0, number - 1) && k < first.length ? first[k] : NONE;
        }

        int lastOf(int k) {
            return within(k, 0, number - 1) && k < last.length ? last[k] : NONE;
        }

        int earliest() {
            return firstOf(0);
        }

        int latest() {
            return lastOf(number - 1);
        }

        int kind() {
            return Math.min(number, 2);
        }
    }

    /** Which loans are older than others. */
    private static final class Layers {
        private final int[] into = new int[MOST_LOANS];
        private final int[] first = new int[MOST_LOANS];
        private final int[] last = new int[MOST_LOANS];
        private final int[] layer = new int[MOST_LOANS];

        Layers of(World world, Windows windows) {
            for (int i = 0; i < MOST_LOANS; i++) {
                Loan loan = world.loanAt(i);
                layer[i] = 0;
                first[i] = NONE;
                last[i] = NONE;
                if (loan == null) continue;
                windows.of(world, loan);
                into[i] = loan.to;
                first[i] = windows.earliest();
                last[i] = windows.latest();
            }
            layByFirstDate();
            return this;
        }

        /** An older loan has an earlier first date, so its layer stands before it is asked for. */
        private void layByFirstDate() {
            for (int date = 0; date <= LAST_DATE; date++) {
                for (int i = 0; i < MOST_LOANS; i++) {
                    if (first[i] == date) layer[i] = 1 + greatestBefore(i);
                }
            }
        }

        private int greatestBefore(int loan) {
            int greatest = 0;
            for (int i = 0; i < MOST_LOANS; i++) {
                if (isOlder(i, loan)) greatest = Math.max(greatest, layer[i]);
            }
            return greatest;
        }

        boolean isOlder(int loan, int other) {
            if (!within(loan, 0, MOST_LOANS - 1) || !within(other, 0, MOST_LOANS - 1)) return false;
            if (first[loan] == NONE || first[other] == NONE) return false;
            return into[loan] == into[other] && last[loan] < first[other];
        }

        int layerOf(int loan) {
            return within(loan, 0, MOST_LOANS - 1) ? layer[loan] : 0;
        }

        int olderThan(int loan) {
            int number = 0;
            for (int i = 0; i < MOST_LOANS; i++) {
                if (isOlder(i, loan)) number++;
            }
            return number;
        }

        int greatest() {
            int greatest = 0;
            for (int one : layer) greatest = Math.max(greatest, one);
            return greatest;
        }
    }

    /** The way of a form from tongue to tongue. */
    private static final class Way {
        // The law of each date and tongue, so that the search need not look through all of them.
        private final Law[] lawOf = new Law[(LAST_DATE + 1) * TONGUES];
        // The dates at which a law or a meeting begins: a step between them could also be earlier.
        private final boolean[] busy = new boolean[LAST_DATE + 1];
        // What was last borrowed in vain into each tongue at each depth, as it has become since.
        private final long[] tried = new long[MOST_STEPS * TONGUES];
        private final int[] steps = new int[MOST_STEPS];
        private long end = Form.EMPTY;
        private int to = 0;
        int number = NONE;

        void find(World world, long word, int from, long end, int to) {
            this.end = end;
            this.to = to;
            prepare(world);
            for (int most = 0; most <= MOST_STEPS; most++) {
                number = most;
                if (leads(world, 0, 0, from, word)) return;
            }
            number = NONE;
        }

        int stepAt(int k) {
            return within(k, 0, number - 1) && k < steps.length ? steps[k] : NONE;
        }

        private void prepare(World world) {
            for (int i = 0; i < lawOf.length; i++) lawOf[i] = null;
            for (int i = 0; i < busy.length; i++) busy[i] = false;
            for (int i = 0; i < MOST_LAWS; i++) {
                Law law = world.lawAt(i);
                if (law == null || !isDate(law.date) || !isTongue(law.tongue)) continue;
                lawOf[law.date * TONGUES + law.tongue] = law;
                busy[law.date] = true;
            }
            for (int i = 0; i < PAIRS; i++) {
                int date = world.firstOf(i);
                if (isDate(date)) busy[date] = true;
            }
        }

        /** Tells whether a way leads on from a form that has come into a tongue by so many steps. */
        private boolean leads(World world, int depth, int date, int tongue, long form) {
            if (!within(depth, 0, Math.min(number, MOST_STEPS) - 1)) {
                return tongue == to && world.developed(form, tongue, date, LAST_DATE) == end;
            }
            for (int next = 0; next < TONGUES; next++) tried[depth * TONGUES + next] = Form.NO_FORM;
            if (branches(world, depth, date, tongue, form)) return true;
            long now = form;
            for (int day = date + 1; day <= LAST_DATE; day++) {
                if (!isBusy(day)) continue;
                now = changed(now, tongue, day);
                ageTried(depth, day);
                if (branches(world, depth, day, tongue, now)) return true;
            }
            return false;
        }

        private boolean branches(World world, int depth, int date, int tongue, long form) {
            if (!within(depth, 0, MOST_STEPS - 1)) return false;
            for (int next = 0; next < TONGUES; next++) {
                int slot = depth * TONGUES + next;
                if (depth == number - 1 && next != to) continue;
                if (tried[slot] == form || !world.isMeeting(pairOf(tongue, next), date)) continue;
                tried[slot] = form;
                steps[depth] = date * TONGUES + next;
                if (leads(world, depth + 1, date, next, form)) return true;
            }
            return false;
        }

        private void ageTried(int depth, int date) {
            for (int tongue = 0; tongue < TONGUES; tongue++) {
                int slot = depth * TONGUES + tongue;
                if (tried[slot] != Form.NO_FORM) tried[slot] = changed(tried[slot], tongue, date);
            }
        }

        private boolean isBusy(int date) {
            return isDate(date) && busy[date];
        }

        private long changed(long form, int tongue, int date) {
            if (!isDate(date) || !isTongue(tongue)) return form;
            Law law = lawOf[date * TONGUES + tongue];
            return law == null ? form : law.applied(form);
        }
    }

    /** The text, and the reading of it. */
    private static final class Text {
        private static final int SIGN = 0, LETTER = 1, DIGIT = 2;
        private final int[] bytes = new int[MOST_BYTES];
        int length = 0;
        int clauses = 0;
        // The token at hand: its first byte, the place behind its last one, and what it consists of.
        private int start = 0;
        private int end = 0;
        private int kind = SIGN;

        void append(int letter) {
            if (!within(length, 0, bytes.length - 1)) return;
            bytes[length] = letter;
            length++;
        }

        void clear() {
            length = 0;
        }

        /** Carries out the clauses on a world up to the fault, and answers the fault or NONE. */
        int read(World world) {
            end = 0;
            advance();
            for (int clause = 1; clause <= MOST_CLAUSES; clause++) {
                clauses = clause;
                if (!readClause(world)) return start;
                if (start >= length) return NONE;
                if (clause == MOST_CLAUSES || !isSign(';')) return start;
                advance();
            }
            return start;
        }

        // These answer false at the first token that cannot stand there, which is then at hand.

        private boolean readClause(World world) {
            if (isWord("law")) return readLaw(world);
            if (isWord("meet")) return readMeeting(world);
            if (isWord("loan")) return readLoan(world);
            if (!isWord("all")) return false;
            world.clear();
            advance();
            return true;
        }

        private boolean readLaw(World world) {
            if (world.lawCount >= MOST_LAWS) return false;
            advance();
            int tongue = number(0, TONGUES - 1);
            if (tongue == NONE) return false;
            advance();
            int date = number(1, LAST_DATE);
            if (date == NONE || world.hasLaw(tongue, date)) return false;
            advance();
            int x = letter();
            if (x == NONE) return false;
            advance();
            int y = letter();
            if (y == x || (y == NONE && !isSign('-'))) return false;
            advance();
            int where = environment();
            if (where == NONE) return false;
            advance();
            int z = NONE;
            if (where != EVERYWHERE) {
                z = letter();
                if (z == NONE) return false;
                advance();
            }
            world.addLaw(new Law(tongue, date, x, y, where, z));
            return true;
        }

        private boolean readMeeting(World world) {
            advance();
            int pair = readPair();
            if (pair == NONE) return false;
            int a = number(0, LAST_DATE);
            if (a == NONE) return false;
            advance();
            int b = number(a, LAST_DATE);
            if (b == NONE) return false;
            advance();
            world.setMeeting(pair, a, b);
            return true;
        }

        private boolean readLoan(World world) {
            if (world.loanCount >= MOST_LOANS) return false;
            advance();
            int pair = readPair();
            if (pair == NONE) return false;
            long word = form(MOST_IN_WORD);
            if (word == Form.NO_FORM) return false;
            advance();
            long last = isSign('-') ? Form.EMPTY : form(MOST_IN_FORM);
            if (last == Form.NO_FORM) return false;
            advance();
            world.addLoan(new Loan(pair / TONGUES, pair % TONGUES, word, last));
            return true;
        }

        private int readPair() {
            int from = number(0, TONGUES - 1);
            if (from == NONE) return NONE;
            advance();
            int pair = pairOf(from, number(0, TONGUES - 1));
            if (pair != NONE) advance();
            return pair;
        }

        // These answer what the token at hand is, or that it is no such thing.

        private int number(int low, int high) {
            if (kind != DIGIT || end - start > 2) return NONE;
            int number = 0;
            for (int i = start; i < end; i++) number = 10 * number + byteAt(i) - '0';
            return within(number, low, high) ? number : NONE;
        }

        private int letter() {
            return kind == LETTER && end - start == 1 ? byteAt(start) - 'a' : NONE;
        }

        private long form(int most) {
            if (kind != LETTER || end - start > most) return Form.NO_FORM;
            long form = Form.EMPTY;
            for (int i = start; i < end; i++) form = Form.longer(form, i - start, byteAt(i) - 'a');
            return form;
        }

        private int environment() {
            if (isSign('.')) return EVERYWHERE;
            if (isSign('>')) return BEFORE;
            return isSign('<') ? AFTER : NONE;
        }

        private boolean isSign(int sign) {
            return byteAt(start) == sign;
        }

        private boolean isWord(String word) {
            if (end - start != word.length()) return false;
            for (int i = 0; i < word.length(); i++) {
                if (byteAt(start + i) != word.charAt(i)) return false;
            }
            return true;
        }

        private void advance() {
            start = end;
            while (start < length && byteAt(start) == ' ') start++;
            end = Math.min(start + 1, length);
            kind = kindOf(byteAt(start));
            while (kind != SIGN && end < length && kindOf(byteAt(end)) == kind) end++;
        }

        private static int kindOf(int letter) {
            if ('a' <= letter && letter <= 'z') return LETTER;
            return '0' <= letter && letter <= '9' ? DIGIT : SIGN;
        }

        private int byteAt(int i) {
            return i >= 0 && i < length && i < bytes.length ? bytes[i] : NONE;
        }
    }
}
