/** The document's Description: contacts, loans, windows and layers. */
final class SentencesOnLoans {
    private static final String HERE = "Description";
    private final Sentences s;

    SentencesOnLoans(Sentences s) {
        this.s = s;
    }

    void all() {
        contacts();
        noContactAtFirst();
        twelveLoans();
        s.leaves(HERE, "A loan is from a language into another one.");
        wordsAndEnds();
        results();
        fittingDates();
        withoutContact();
        windows();
        kinds();
        older();
        layers();
    }

    private void contacts() {
        s.on(HERE, "From a language to another one there is at most one contact (directed, so that there can also be "
            + "one in the other direction), with a first and a last date, the first being at most the last.");
        Probe x = s.fresh();
        s.due(x.meet(0, 1, 40, 60), 1);
        s.due(x.meet(0, 1, 10, 20), 1);
        s.due(x.meeting(0, 1, 0), 10);
        s.due(x.meeting(0, 1, 1), 20);
        s.due(x.meeting(1, 0, 0), Sentences.UNKNOWN);
        s.due(x.meet(1, 0, 30, 30), 2);
        s.due(x.meet(1, 0, 30, 29), Sentences.OUTSIDE);
        s.due(x.meeting(0, 1, 0), 10);
        s.due(x.meeting(1, 0, 0), 30);
        s.due(x.meeting(1, 0, 1), 30);
        for (int tongue = 0; tongue < 4; tongue++) s.due(x.meet(tongue, tongue, 0, 99), Sentences.UNKNOWN);
        s.due(x.part(1, 0), 1);
        s.due(x.meeting(0, 1, 1), 20);
        x.tells("meet 0 1 5 5;meet 0 1 6 7");
        s.due(x.count(1), 1);
        s.due(x.meeting(0, 1, 0), 6);
        Probe y = s.fresh();
        int number = 0;
        for (int pair = 0; pair < 16; pair++) {
            if (pair % 5 != 0) s.due(y.meet(pair / 4, pair % 4, pair, 99 - pair), ++number);
        }
        for (int pair = 0; pair < 16; pair++) {
            s.due(y.meeting(pair / 4, pair % 4, 0), pair % 5 == 0 ? Sentences.UNKNOWN : pair);
            s.due(y.meeting(pair / 4, pair % 4, 1), pair % 5 == 0 ? Sentences.UNKNOWN : 99 - pair);
        }
    }

    private void noContactAtFirst() {
        s.on(HERE, "At first there is none.");
        Probe x = s.fresh();
        s.due(x.count(1), 0);
        for (int pair = 0; pair < 16; pair++) {
            s.due(x.meeting(pair / 4, pair % 4, 0), Sentences.UNKNOWN);
            s.due(x.part(pair / 4, pair % 4), Sentences.UNKNOWN);
        }
    }

    private void twelveLoans() {
        s.on(HERE, "There are at most 12 loans, numbered from 0; at first there are none.");
        Probe x = s.fresh();
        s.due(x.count(2), 0);
        s.due(x.loan(0, 0), Sentences.UNKNOWN);
        x.tells("loan 0 1 a a;loan 1 2 b b");
        s.due(x.sound(0, 0, 0), 0);
        s.due(x.sound(1, 0, 0), 1);
        s.due(x.loan(-1, 0), Sentences.UNKNOWN);
        s.due(x.loan(2, 0), Sentences.UNKNOWN);
        for (int number = 3; number <= 12; number++) s.due(x.lend(1, 2, 3, 0), number);
        s.due(x.loan(11, 0), 2);
        s.due(x.loan(12, 0), Sentences.UNKNOWN);
        s.due(x.lend(1, 2, 3, 0), Sentences.FULL);
        s.due(x.count(2), 12);
        s.due(x.types("loan 0 1 c c").fault(), 0);
        s.due(x.drop(5), 11);
        s.due(x.tell(), 1);
        s.due(x.sound(11, 0, 0), 2);
        s.due(x.lend(1, 2, 3, 0), Sentences.FULL);
    }

    private void wordsAndEnds() {
        s.on(HERE, "It has a word, a form of 1 to 8 sounds, as it was in the first language at date 0, and an end, a "
            + "form of 0 to 10 sounds, as it is in the second language at date 99.");
        Probe x = s.told("loan 0 1 a -;loan 2 3 abcdefgh abcdefghij;loan 0 1 b c");
        int[][] lengths = {{1, 0}, {8, 10}, {1, 1}};
        for (int loan = 0; loan < 3; loan++) {
            s.due(x.loan(loan, 2), lengths[loan][0]);
            s.due(x.loan(loan, 3), lengths[loan][1]);
        }
        fault("loan 0 1 - a", 9);
        fault("loan 0 1 abcdefgh a", Sentences.NONE);
        fault("loan 0 1 abcdefghi a", 9);
        fault("loan 0 1 a abcdefghij", Sentences.NONE);
        fault("loan 0 1 a abcdefghijk", 11);
        // The first law that can be, at date 1, already changes the word; the last one, at 99, makes the end.
        Probe y = s.told("law 0 1 a b .;law 1 99 b c .;meet 0 1 0 98;loan 0 1 a c");
        s.due(y.gone(0, 0, 0, 0, 0), 0);
        s.due(y.taken(0, 0, 0), 0);
        s.due(y.taken(0, 1, 0), 2);
        s.due(y.loan(0, 6), 1);
        s.due(y.loan(0, 7), 98);
    }

    private void fault(String text, int due) {
        s.due(s.fresh().types(text).fault(), due);
    }

    private void results() {
        s.on(HERE, "The result of borrowing the word of a loan at date d is the word, developed in the first language "
            + "from 0 to d, and then in the second language from d to 99, whether there is a contact at d or not.");
        Probe x = s.told("law 0 50 a b .;law 1 50 b c .;law 1 51 b d .;law 1 99 a e .;law 2 50 a z .;loan 0 1 a a");
        int[][] due = {{0, 4}, {49, 4}, {50, 3}, {51, 1}, {99, 1}};
        for (int[] row : due) s.due(x.taken(0, row[0], 0), row[1]);
        s.due(x.meet(0, 1, 0, 99), 1);
        for (int[] row : due) s.due(x.taken(0, row[0], 0), row[1]);
        s.due(x.meet(0, 1, 50, 50), 1);
        for (int[] row : due) s.due(x.taken(0, row[0], 0), row[1]);
        // A form that comes to the second tongue with its law's date is no longer changed by it.
        s.due(x.lend(0, 1, 0, 98), 2);
        s.due(x.sound(1, 1, 0), 0);
        s.due(x.lend(0, 1, 0, 99), 3);
        s.due(x.sound(2, 1, 0), 4);
    }

    /** The loan p to b, which the laws of date 20 and of date 10 both make, in a contact from a to b. */
    private void fits(int a, int b, int... due) {
        Probe x = s.told("law 0 20 p b .;law 1 10 p b .;loan 0 1 p b");
        s.due(x.meet(0, 1, a, b), 1);
        s.due(x.loan(0, 5), due.length / 2);
        for (int i = 0; i < due.length; i++) s.due(x.window(0, i / 2, i % 2), due[i]);
        s.due(x.window(0, due.length / 2, 0), Sentences.UNKNOWN);
        s.due(x.loan(0, 6), due.length == 0 ? Sentences.NONE : due[0]);
        s.due(x.loan(0, 7), due.length == 0 ? Sentences.NONE : due[due.length - 1]);
    }

    private void fittingDates() {
        s.on(HERE, "A date fits a loan if it lies in the contact from the first to the second language (limits "
            + "included), and the result of borrowing at this date is the end.");
        fits(0, 99, 0, 9, 20, 99);
        fits(0, 0, 0, 0);
        fits(99, 99, 99, 99);
        fits(9, 9, 9, 9);
        fits(10, 10);
        fits(19, 19);
        fits(20, 20, 20, 20);
        fits(10, 19);
        fits(9, 19, 9, 9);
        fits(10, 20, 20, 20);
        fits(9, 20, 9, 9, 20, 20);
        fits(3, 5, 3, 5);
        fits(50, 60, 50, 60);
        fits(1, 98, 1, 9, 20, 98);
    }

    private void withoutContact() {
        s.on(HERE, "Without such a contact no date fits.");
        Probe x = s.told("loan 0 1 a a;meet 1 0 0 99;meet 0 2 0 99;meet 2 1 0 99");
        int[] due = {0, 1, 1, 1, 0, 0, Sentences.NONE, Sentences.NONE, 0, 0};
        for (int what = 0; what <= 9; what++) s.due(x.loan(0, what), due[what]);
        s.due(x.window(0, 0, 0), Sentences.UNKNOWN);
        s.due(x.count(3), 1);
        s.due(x.meet(0, 1, 99, 99), 4);
        s.due(x.loan(0, 4), 1);
        s.due(x.part(0, 1), 3);
        s.due(x.loan(0, 4), 0);
        s.due(x.loan(0, 6), Sentences.NONE);
    }

    private void windows() {
        s.on(HERE, "The windows of a loan are the maximal sequences of consecutive dates that fit; they are numbered "
            + "from 0 in ascending order.");
        // Laws that change nothing of the word, or whose work is the same in both tongues, part no window.
        Probe x = s.told("law 0 5 q r .;law 1 6 q r .;law 0 7 a b .;law 1 7 a b .;meet 0 1 2 97;loan 0 1 a b;loan 0 1 q r");
        s.due(x.loan(0, 5), 1);
        s.due(x.window(0, 0, 0), 2);
        s.due(x.window(0, 0, 1), 97);
        s.due(x.loan(1, 5), 1);
        s.due(x.window(1, 0, 0), 2);
        // The law of tongue 0 comes one date later: that date is left out.
        s.due(x.repeal(2), 3);
        s.due(x.law(0, 8, 0, 1, 0, 0), 3);
        s.due(x.loan(0, 5), 2);
        s.due(x.window(0, 0, 1), 6);
        s.due(x.window(0, 1, 0), 8);
        s.due(x.window(0, 1, 1), 97);
        Probe y = s.told("meet 0 1 0 99;loan 0 1 a a");
        for (int n = 1; n <= 16; n++) s.due(y.law(0, 2 * n, 1 - n % 2, n % 2, 0, 0), n - 1);
        s.due(y.loan(0, 5), 9);
        for (int k = 0; k <= 8; k++) {
            s.due(y.window(0, k, 0), 4 * k);
            s.due(y.window(0, k, 1), k == 8 ? 99 : 4 * k + 1);
        }
        s.due(y.window(0, 9, 0), Sentences.UNKNOWN);
        s.due(y.window(0, -1, 0), Sentences.UNKNOWN);
    }

    private void kinds() {
        s.on(HERE, "The kind of a loan is 0 if it has no window, 1 if it has one, and 2 if it has several.");
        Probe x = s.told("law 0 10 a b .;law 0 20 b a .;law 0 30 a b .;law 0 40 b a .;meet 0 1 0 99;loan 0 1 a a;loan 0 1 c c;"
            + "loan 0 1 a c");
        s.due(x.loan(0, 5), 3);
        s.due(x.loan(0, 4), 2);
        s.due(x.loan(1, 4), 1);
        s.due(x.loan(2, 4), 0);
        s.due(x.meet(0, 1, 0, 20), 1);
        s.due(x.loan(0, 5), 2);
        s.due(x.loan(0, 4), 2);
        s.due(x.meet(0, 1, 0, 19), 1);
        s.due(x.loan(0, 4), 1);
        s.due(x.meet(0, 1, 9, 9), 1);
        s.due(x.loan(0, 4), 1);
        s.due(x.meet(0, 1, 10, 19), 1);
        s.due(x.loan(0, 4), 0);
    }

    private void older() {
        s.on(HERE, "A loan is older than another loan into the same language (from whichever languages) if dates fit "
            + "both of them, and the last date that fits the first one is before the first date that fits the other "
            + "one.");
        Probe x = s.told("meet 0 1 0 10;meet 2 1 11 20;meet 0 3 11 20;loan 0 1 a a;loan 2 1 a a;loan 0 3 a a;loan 3 1 a a;"
            + "loan 2 1 b b;loan 2 1 a b");
        s.due(x.older(0, 1), 1);
        s.due(x.older(1, 0), 0);
        s.due(x.older(0, 2), 0);
        s.due(x.older(0, 3), 0);
        s.due(x.older(3, 1), 0);
        s.due(x.older(0, 4), 1);
        s.due(x.older(1, 4), 0);
        s.due(x.older(0, 5), 0);
        s.due(x.older(5, 1), 0);
        for (int loan = 0; loan < 6; loan++) s.due(x.older(loan, loan), 0);
        s.due(x.meet(2, 1, 10, 20), 3);
        s.due(x.older(0, 1), 0);
        s.due(x.meet(2, 1, 11, 11), 3);
        s.due(x.older(0, 1), 1);
        s.due(x.meet(2, 1, 99, 99), 3);
        s.due(x.older(0, 1), 1);
        s.due(x.meet(3, 1, 0, 0), 4);
        s.due(x.older(3, 0), 0);
        s.due(x.meet(0, 1, 1, 10), 4);
        s.due(x.older(3, 0), 1);
        // Windows in between do not count: only the last date of the one and the first of the other.
        Probe y = s.told("law 0 10 a b .;law 0 20 b a .;meet 0 1 0 99;meet 2 1 21 30;meet 3 1 10 19;loan 0 1 a a;loan 0 1 a b;"
            + "loan 2 1 a a;loan 3 1 a a");
        s.due(y.older(0, 1), 0);
        s.due(y.older(1, 0), 0);
        s.due(y.older(1, 2), 1);
        s.due(y.older(0, 2), 0);
        s.due(y.older(3, 2), 1);
        s.due(y.older(0, 3), 0);
    }

    private void layers() {
        s.on(HERE, "The layer of a loan is 0 if no date fits it; otherwise it is 1 if no loan is older than it, and "
            + "else 1 more than the greatest layer of the loans that are older.");
        Probe x = s.fresh();
        for (int n = 1; n <= 11; n++) s.due(x.law(0, n, n - 1, n, 0, 0), n - 1);
        s.due(x.meet(0, 1, 0, 11), 1);
        x.tells("loan 0 1 a l");
        for (int n = 10; n >= 0; n--) s.due(x.lend(0, 0, 1, n), 12 - n);
        for (int loan = 0; loan < 12; loan++) {
            s.due(x.loan(loan, 8), 12 - loan);
            s.due(x.loan(loan, 9), 11 - loan);
        }
        s.due(x.count(6), 12);
        s.due(x.meet(0, 1, 0, 10), 1);
        s.due(x.loan(0, 8), 0);
        s.due(x.loan(0, 9), 0);
        s.due(x.loan(1, 8), 11);
        s.due(x.meet(0, 1, 5, 11), 1);
        s.due(x.loan(11, 8), 0);
        s.due(x.loan(6, 8), 1);
        s.due(x.loan(0, 8), 7);
        s.due(x.part(0, 1), 0);
        s.due(x.loan(0, 8), 0);
        s.due(x.count(6), 0);
        oldestFirst();
        onlyLoansThatAreThere();
        lastDate();
        greatestLayer();
    }

    /** Twelve layers again, the oldest loan being the first one now. */
    private void oldestFirst() {
        Probe x = s.fresh();
        for (int n = 1; n <= 11; n++) s.due(x.law(0, n, n - 1, n, 0, 0), n - 1);
        s.due(x.meet(0, 1, 0, 11), 1);
        x.tells("loan 0 1 a a");
        for (int n = 1; n <= 11; n++) s.due(x.lend(0, 0, 1, n), n + 1);
        for (int loan = 0; loan < 12; loan++) {
            s.due(x.loan(loan, 8), loan + 1);
            s.due(x.loan(loan, 9), loan);
            s.due(x.older(loan, 11), loan < 11 ? 1 : 0);
            s.due(x.older(0, loan), loan > 0 ? 1 : 0);
        }
    }

    /** Loans that there are not yet, or no longer, are older than none, into whichever tongue. */
    private void onlyLoansThatAreThere() {
        for (int to = 0; to < 4; to++) {
            int from = (to + 1) % 4;
            int other = (to + 2) % 4;
            Probe x = s.told("meet " + from + " " + to + " 50 60;loan " + from + " " + to + " a a");
            s.due(x.loan(0, 8), 1);
            s.due(x.loan(0, 9), 0);
            s.due(x.count(6), 1);
            x.tells("meet " + other + " " + to + " 0 40;loan " + other + " " + to + " a a");
            s.due(x.loan(0, 8), 2);
            s.due(x.loan(0, 9), 1);
            s.due(x.drop(1), 1);
            s.due(x.loan(0, 8), 1);
            s.due(x.loan(0, 9), 0);
            s.due(x.count(6), 1);
        }
    }

    /** The last date that can fit has layers like any other one. */
    private void lastDate() {
        Probe x = s.told("meet 0 1 99 99;meet 2 1 98 98;loan 0 1 a a");
        s.due(x.loan(0, 8), 1);
        s.due(x.count(6), 1);
        x.tells("loan 2 1 a a");
        s.due(x.loan(0, 8), 2);
        s.due(x.loan(1, 8), 1);
        s.due(x.count(6), 2);
        s.due(x.meet(2, 1, 98, 99), 2);
        s.due(x.loan(0, 8), 1);
        s.due(x.loan(0, 9), 0);
    }

    /** Two older loans of different layers, and one whose older loan goes into another tongue. */
    private void greatestLayer() {
        Probe x = s.told("meet 0 1 0 5;meet 2 1 6 9;meet 3 1 20 20;meet 0 2 0 5;meet 1 2 8 8");
        x.tells("loan 3 1 a a;loan 0 1 a a;loan 2 1 a a;loan 0 1 b b;loan 0 2 a a;loan 1 2 a a");
        int[] layers = {3, 1, 2, 1, 1, 2};
        int[] olders = {3, 0, 2, 0, 0, 1};
        for (int loan = 0; loan < 6; loan++) {
            s.due(x.loan(loan, 8), layers[loan]);
            s.due(x.loan(loan, 9), olders[loan]);
        }
        s.due(x.count(6), 3);
        s.due(x.meet(2, 1, 5, 9), 5);
        s.due(x.loan(0, 8), 2);
        s.due(x.loan(0, 9), 3);
        s.due(x.loan(2, 8), 1);
    }
}
