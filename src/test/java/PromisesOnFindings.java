/** Promises 19 to 24: window, taken, gone, did, older and road. */
final class PromisesOnFindings {
    private static final int[] NO_TONGUES = {-1, 4, Sentences.LEAST, Sentences.GREATEST};
    private static final int[] NO_DATES = {-1, 100, Sentences.LEAST, Sentences.GREATEST};
    private static final int[] NO_LAWS_OF_RICH = {-1, 3, 15, 16, Sentences.LEAST, Sentences.GREATEST};
    private static final int[] NO_LOANS_OF_RICH = {-1, 3, 11, 12, Sentences.LEAST, Sentences.GREATEST};
    private final Sentences s;
    private final Worlds worlds;

    PromisesOnFindings(Sentences s) {
        this.s = s;
        worlds = new Worlds(s);
    }

    void all() {
        window();
        taken();
        gone();
        did();
        didErrors();
        older();
        road();
        roadErrors();
    }

    private void window() {
        s.on("Promise 19", "Returns a limit of a window of a loan.");
        Probe x = worlds.rich();
        s.due(x.window(0, 0, 1), 9);
        s.due(x.window(0, 1, 0), 20);
        s.leaves("Promise 19", "`loan`: the loan");
        s.on("Promise 19", "`k`: the window");
        s.due(x.window(0, 0, 0), 0);
        s.due(x.window(0, 1, 0), 20);
        s.due(x.window(2, 0, 0), 10);
        s.on("Promise 19", "`what`: 0 for the first date, 1 for the last date");
        s.due(x.window(0, 1, 0), 20);
        s.due(x.window(0, 1, 1), 99);
        s.due(x.window(2, 0, 1), 19);
        s.on("Promise 19", "Returns the date");
        s.due(x.window(0, 0, 0), 0);
        s.on("Promise 19", "UNKNOWN if there is no such loan or window");
        for (int no : NO_LOANS_OF_RICH) {
            s.refused(worlds::rich, p -> p.window(no, 0, 0), Sentences.UNKNOWN);
            s.refused(worlds::rich, p -> p.window(no, 0, 2), Sentences.UNKNOWN);
        }
        for (int no : new int[] {-1, 2, 16, 17, Sentences.LEAST, Sentences.GREATEST}) {
            s.refused(worlds::rich, p -> p.window(0, no, 0), Sentences.UNKNOWN);
            s.refused(worlds::rich, p -> p.window(0, no, 2), Sentences.UNKNOWN);
            s.refused(worlds::rich, p -> p.window(2, no, 0), Sentences.UNKNOWN);
        }
        s.refused(worlds::rich, p -> p.window(1, 0, 0), Sentences.UNKNOWN);
        s.refused(worlds::rich, p -> p.window(1, -1, 0), Sentences.UNKNOWN);
        s.refused(worlds::rich, p -> p.window(2, 1, 1), Sentences.UNKNOWN);
        s.on("Promise 19", "OUTSIDE if what is not 0 or 1.");
        for (int no : new int[] {-1, 2, Sentences.LEAST, Sentences.GREATEST}) {
            s.refused(worlds::rich, p -> p.window(0, 1, no), Sentences.OUTSIDE);
        }
    }

    private void taken() {
        s.on("Promise 20", "Returns a sound of the result of borrowing the word of a loan at a date.");
        Probe x = s.told("law 0 10 a b .;law 1 10 a - .;law 1 30 b c .;law 0 40 b - .;loan 0 1 ax z;loan 0 1 abcdefgh -");
        int[][] due = {{9, 1, 23}, {10, 2, 2}, {29, 2, 2}, {30, 2, 1}, {39, 2, 1}, {40, 1, 23}};
        for (int[] row : due) {
            s.due(x.taken(0, row[0], Sentences.NONE), row[1]);
            s.due(x.taken(0, row[0], 0), row[2]);
        }
        s.leaves("Promise 20", "`loan`: the loan");
        s.on("Promise 20", "`date`: the date, 0 to 99");
        s.due(x.taken(0, 0, 0), 23);
        s.due(x.taken(0, 99, 0), 23);
        s.due(x.taken(1, 0, 0), 2);
        s.due(x.taken(1, 0, 1), 2);
        s.due(x.taken(1, 99, 0), 2);
        s.on("Promise 20", "`i`: the index of the sound, from 0, or NONE for the number of sounds");
        s.due(x.taken(1, 30, Sentences.NONE), 8);
        s.due(x.taken(1, 30, 0), 1);
        s.due(x.taken(1, 30, 7), 7);
        Probe y = s.told("law 1 5 a - .;loan 0 1 aaaaaaaa a");
        s.due(y.taken(0, 4, Sentences.NONE), 0);
        s.due(y.taken(0, 4, 0), Sentences.UNKNOWN);
        s.due(y.taken(0, 5, Sentences.NONE), 8);
        s.on("Promise 20", "Returns the sound or the number; UNKNOWN if there is no such loan");
        s.due(y.taken(0, 5, 7), 0);
        for (int no : NO_LOANS_OF_RICH) {
            s.refused(worlds::rich, p -> p.taken(no, 0, 0), Sentences.UNKNOWN);
            s.refused(worlds::rich, p -> p.taken(no, 100, Sentences.NONE), Sentences.UNKNOWN);
        }
        s.on("Promise 20", "OUTSIDE if date is out of range");
        for (int no : NO_DATES) {
            s.refused(worlds::rich, p -> p.taken(0, no, 0), Sentences.OUTSIDE);
            s.refused(worlds::rich, p -> p.taken(0, no, 5), Sentences.OUTSIDE);
            s.refused(worlds::rich, p -> p.taken(0, no, Sentences.NONE), Sentences.OUTSIDE);
        }
        s.on("Promise 20", "UNKNOWN if there is no such sound.");
        for (int no : new int[] {-2, 2, 8, 10, 11, Sentences.LEAST, Sentences.GREATEST}) {
            s.refused(worlds::rich, p -> p.taken(1, 0, no), Sentences.UNKNOWN);
        }
    }

    private void gone() {
        s.on("Promise 21", "Returns a sound of the word of a loan, developed in a language from date d to date e.");
        Probe x = s.told("law 2 10 a b .;law 2 20 b - .;law 3 1 a c .;law 3 99 c d .;loan 0 1 ax z;loan 0 1 a z");
        s.due(x.gone(0, 2, 0, 10, 0), 1);
        s.due(x.gone(0, 2, 0, 20, 0), 23);
        s.due(x.gone(0, 2, 10, 20, 0), 0);
        s.leaves("Promise 21", "`loan`: the loan");
        s.on("Promise 21", "`tongue`: the language");
        s.due(x.gone(0, 0, 0, 99, 0), 0);
        s.due(x.gone(0, 1, 0, 99, 0), 0);
        s.due(x.gone(0, 3, 0, 99, 0), 3);
        s.on("Promise 21", "`d`: the date d, 0 to 99");
        s.due(x.gone(0, 3, 0, 1, 0), 2);
        s.due(x.gone(0, 3, 1, 99, 0), 0);
        s.due(x.gone(0, 3, 99, 99, 0), 0);
        s.on("Promise 21", "`e`: the date e, 0 to 99, which may be less than d");
        s.due(x.gone(0, 3, 0, 0, 0), 0);
        s.due(x.gone(0, 3, 0, 98, 0), 2);
        s.due(x.gone(0, 3, 0, 99, 0), 3);
        s.due(x.gone(0, 3, 99, 0, 0), 0);
        s.due(x.gone(0, 2, 20, 9, 0), 0);
        s.due(x.gone(0, 2, 1, 0, 0), 0);
        s.on("Promise 21", "`i`: the index of the sound, from 0, or NONE for the number of sounds");
        s.due(x.gone(0, 2, 0, 19, Sentences.NONE), 2);
        s.due(x.gone(0, 2, 0, 19, 1), 23);
        s.due(x.gone(0, 2, 0, 20, Sentences.NONE), 1);
        s.due(x.gone(1, 2, 0, 20, Sentences.NONE), 0);
        s.due(x.gone(1, 2, 0, 20, 0), Sentences.UNKNOWN);
        s.on("Promise 21", "Returns the sound or the number; UNKNOWN if there is no such loan or language");
        s.due(x.gone(1, 2, 0, 19, 0), 1);
        for (int no : NO_LOANS_OF_RICH) {
            s.refused(worlds::rich, p -> p.gone(no, 0, 0, 9, 0), Sentences.UNKNOWN);
            s.refused(worlds::rich, p -> p.gone(no, 0, 100, 9, 0), Sentences.UNKNOWN);
        }
        for (int no : NO_TONGUES) {
            s.refused(worlds::rich, p -> p.gone(0, no, 0, 9, 0), Sentences.UNKNOWN);
            s.refused(worlds::rich, p -> p.gone(0, no, 0, -1, 0), Sentences.UNKNOWN);
        }
        s.on("Promise 21", "OUTSIDE if a date is out of range");
        for (int no : NO_DATES) {
            s.refused(worlds::rich, p -> p.gone(0, 0, no, 9, 0), Sentences.OUTSIDE);
            s.refused(worlds::rich, p -> p.gone(0, 0, 9, no, 0), Sentences.OUTSIDE);
            s.refused(worlds::rich, p -> p.gone(0, 0, no, no, 5), Sentences.OUTSIDE);
        }
        s.on("Promise 21", "UNKNOWN if there is no such sound.");
        for (int no : new int[] {-2, 2, 8, 10, 11, Sentences.LEAST, Sentences.GREATEST}) {
            s.refused(worlds::rich, p -> p.gone(1, 0, 0, 9, no), Sentences.UNKNOWN);
        }
    }

    private void did() {
        s.on("Promise 22", "Tells what a sound change of the second language of a loan did if its word was borrowed at a "
            + "date.");
        Probe x = didWorld();
        s.due(x.did(0, 0, 5), 1);
        s.leaves("Promise 22", "`loan`: the loan");
        s.leaves("Promise 22", "`law`: the sound change");
        s.on("Promise 22", "`date`: the date of the borrowing, 0 to 99");
        s.due(x.did(0, 0, 0), 1);
        s.due(x.did(0, 3, 99), 2);
        s.due(x.did(0, 0, 99), 0);
        s.on("Promise 22", "Returns 1 if the date of the sound change is later than this date, and it affects the form as "
            + "it is then, before it is applied");
        s.due(x.did(0, 0, 19), 1);
        s.due(x.did(0, 2, 19), 1);
        s.due(x.did(0, 3, 30), 1);
        s.due(x.did(0, 3, 49), 1);
        Probe y = s.told("law 1 99 a b .;law 1 1 c a .;loan 0 1 a a;loan 0 1 c a");
        s.due(y.did(0, 1, 98), 1);
        s.due(y.did(1, 0, 0), 1);
        s.due(y.did(1, 1, 0), 1);
        s.due(y.did(1, 1, 1), 0);
        s.on("Promise 22", "2 if its date is this date or earlier, and it would affect the form that was borrowed (the "
            + "word, developed in the first language from 0 to this date)");
        s.due(x.did(0, 0, 20), 2);
        s.due(x.did(0, 0, 29), 2);
        s.due(x.did(0, 3, 50), 2);
        s.due(x.did(0, 3, 98), 2);
        s.due(y.did(0, 1, 99), 2);
        s.due(y.did(1, 0, 1), 2);
        s.due(y.did(1, 0, 99), 2);
        Probe z = s.told("law 0 1 a c .;law 0 99 c d .;law 1 2 c e .;law 1 1 a e .;loan 0 1 a a");
        s.due(z.did(0, 1, 0), 1);
        s.due(z.did(0, 1, 1), 0);
        s.due(z.did(0, 2, 1), 1);
        s.due(z.did(0, 2, 2), 2);
        s.due(z.did(0, 2, 98), 2);
        s.due(z.did(0, 2, 99), 0);
        s.on("Promise 22", "0 otherwise");
        s.due(x.did(0, 0, 30), 0);
        s.due(x.did(0, 2, 20), 0);
        s.due(x.did(0, 2, 39), 0);
        s.due(x.did(0, 2, 40), 0);
        s.due(x.did(0, 3, 0), 0);
        s.due(x.did(0, 3, 29), 0);
        s.due(y.did(1, 1, 99), 0);
    }

    /** The laws are numbered: 0 of tongue 1 at 20, 1 of tongue 0 at 30, 2 at 40, 3 at 50, 4 of tongue 2 at 60. */
    private Probe didWorld() {
        return s.told("law 0 30 a c .;law 1 20 a b .;law 1 40 b d .;law 1 50 c - .;law 2 60 a b .;loan 0 1 a z");
    }

    private void didErrors() {
        s.on("Promise 22", "UNKNOWN if there is no such loan or sound change, or the sound change is of another language");
        for (int no : NO_LOANS_OF_RICH) {
            s.refused(worlds::rich, p -> p.did(no, 0, 0), Sentences.UNKNOWN);
            s.refused(worlds::rich, p -> p.did(no, 0, 100), Sentences.UNKNOWN);
        }
        for (int no : NO_LAWS_OF_RICH) {
            s.refused(worlds::rich, p -> p.did(0, no, 0), Sentences.UNKNOWN);
            s.refused(worlds::rich, p -> p.did(0, no, 100), Sentences.UNKNOWN);
        }
        // The first language of the loan is another one too.
        s.refused(worlds::rich, p -> p.did(0, 1, 0), Sentences.UNKNOWN);
        s.refused(worlds::rich, p -> p.did(0, 2, 0), Sentences.UNKNOWN);
        s.refused(worlds::rich, p -> p.did(0, 2, -1), Sentences.UNKNOWN);
        s.refused(this::didWorld, p -> p.did(0, 4, 0), Sentences.UNKNOWN);
        s.on("Promise 22", "OUTSIDE if date is out of range.");
        for (int no : NO_DATES) s.refused(worlds::rich, p -> p.did(0, 0, no), Sentences.OUTSIDE);
    }

    private void older() {
        s.on("Promise 23", "Tells whether a loan is older than another one.");
        Probe x = s.told("meet 0 1 0 10;meet 2 1 11 20;meet 3 1 10 10;loan 0 1 a a;loan 2 1 a a;loan 3 1 a a;loan 0 1 a b");
        s.due(x.older(0, 1), 1);
        s.due(x.older(1, 0), 0);
        s.leaves("Promise 23", "`loan`: the loan");
        s.on("Promise 23", "`other`: the other loan, perhaps the same");
        for (int loan = 0; loan < 4; loan++) s.due(x.older(loan, loan), 0);
        s.on("Promise 23", "Returns 1 if it is older, else 0");
        int[][] due = {{0, 1, 0, 0}, {0, 0, 0, 0}, {0, 1, 0, 0}, {0, 0, 0, 0}};
        for (int loan = 0; loan < 4; loan++) {
            for (int other = 0; other < 4; other++) s.due(x.older(loan, other), due[loan][other]);
        }
        s.on("Promise 23", "UNKNOWN if there is no such loan.");
        for (int no : NO_LOANS_OF_RICH) {
            s.refused(worlds::rich, p -> p.older(no, 0), Sentences.UNKNOWN);
            s.refused(worlds::rich, p -> p.older(0, no), Sentences.UNKNOWN);
            s.refused(worlds::rich, p -> p.older(no, no), Sentences.UNKNOWN);
        }
        s.due(worlds.fullOfLoans().older(11, 12), Sentences.UNKNOWN);
        s.due(worlds.fullOfLoans().older(12, 11), Sentences.UNKNOWN);
        s.due(worlds.fullOfLoans().older(11, 11), 0);
    }

    private void road() {
        s.on("Promise 24", "Returns a part of the way of the word of a loan, which is in a language at date 0, to a "
            + "language, where it has to be equal to the end of a loan at last.");
        Probe x = s.told("law 1 40 a b .;meet 0 1 10 60;meet 1 2 30 70;meet 2 3 50 80;loan 0 1 a c;loan 2 3 d a;loan 1 2 e b");
        s.due(x.road(0, 0, 1, 1, 0), 4 * 40 + 1);
        s.due(x.road(0, 0, 2, 1, 0), 4 * 10 + 1);
        s.leaves("Promise 24", "`word`: the loan with the word");
        s.leaves("Promise 24", "`from`: the language at date 0");
        s.on("Promise 24", "`end`: the loan with the end, perhaps the same");
        Probe y = s.told("meet 0 1 5 9;loan 2 3 a a;loan 2 3 b a");
        s.due(y.road(0, 0, 0, 1, 0), 21);
        s.due(y.road(0, 0, 1, 1, 0), 21);
        s.due(y.road(1, 0, 0, 1, 0), Sentences.NONE);
        s.due(y.road(1, 0, 1, 1, -1), Sentences.NONE);
        s.on("Promise 24", "`to`: the language at last, perhaps the same");
        for (int tongue = 0; tongue < 4; tongue++) {
            s.due(y.road(0, tongue, 0, tongue, Sentences.NONE), 0);
            s.due(y.road(0, tongue, 0, tongue, 0), Sentences.NONE);
            s.due(y.road(1, tongue, 0, tongue, Sentences.NONE), Sentences.NONE);
        }
        s.on("Promise 24", "`k`: NONE for the number of steps, or the index of a step, from 0");
        s.due(x.road(0, 0, 1, 3, Sentences.NONE), 3);
        s.due(x.road(0, 0, 1, 3, 0), 4 * 10 + 1);
        s.due(x.road(0, 0, 1, 3, 1), 4 * 30 + 2);
        s.due(x.road(0, 0, 1, 3, 2), 4 * 50 + 3);
        s.on("Promise 24", "Returns the number of steps, or 4 * the date + the language of the step");
        s.due(x.road(0, 0, 2, 3, Sentences.NONE), 3);
        s.due(x.road(0, 0, 2, 3, 0), 4 * 10 + 1);
        s.due(x.road(0, 0, 2, 3, 1), 4 * 40 + 2);
        s.due(x.road(0, 0, 2, 3, 2), 4 * 50 + 3);
        s.due(x.road(0, 0, 1, 2, Sentences.NONE), 2);
        s.due(x.road(0, 0, 1, 0, Sentences.NONE), 0);
    }

    private void roadErrors() {
        s.on("Promise 24", "UNKNOWN if there is no such loan or language");
        for (int no : NO_LOANS_OF_RICH) {
            s.refused(worlds::rich, p -> p.road(no, 0, 0, 1, 0), Sentences.UNKNOWN);
            s.refused(worlds::rich, p -> p.road(0, 0, no, 1, 0), Sentences.UNKNOWN);
            s.refused(worlds::rich, p -> p.road(no, 0, no, 1, -2), Sentences.UNKNOWN);
        }
        for (int no : NO_TONGUES) {
            s.refused(worlds::rich, p -> p.road(0, no, 0, 1, 0), Sentences.UNKNOWN);
            s.refused(worlds::rich, p -> p.road(0, 1, 0, no, 0), Sentences.UNKNOWN);
            s.refused(worlds::rich, p -> p.road(0, no, 0, no, -2), Sentences.UNKNOWN);
        }
        s.on("Promise 24", "OUTSIDE if k is less than NONE");
        for (int no : new int[] {-2, -3, Sentences.LEAST}) {
            s.refused(worlds::rich, p -> p.road(0, 0, 0, 1, no), Sentences.OUTSIDE);
            s.refused(worlds::rich, p -> p.road(0, 1, 0, 0, no), Sentences.OUTSIDE);
        }
        s.on("Promise 24", "NONE if there is no way, or it has no such step.");
        Probe x = worlds.rich();
        for (int k : new int[] {-1, 0, 1, 2, 3, Sentences.GREATEST}) s.due(x.road(0, 1, 0, 0, k), Sentences.NONE);
        s.due(x.road(0, 0, 0, 1, Sentences.NONE), 1);
        s.due(x.road(0, 0, 0, 1, 0), 1);
        for (int k : new int[] {1, 2, 3, Sentences.GREATEST}) s.due(x.road(0, 0, 0, 1, k), Sentences.NONE);
        Probe y = s.told("meet 0 1 0 9;meet 1 2 0 9;meet 2 3 0 9;loan 0 1 a a");
        s.due(y.road(0, 0, 0, 3, Sentences.NONE), 3);
        s.due(y.road(0, 0, 0, 3, 2), 3);
        for (int k : new int[] {3, 4, 11, 12, Sentences.GREATEST}) s.due(y.road(0, 0, 0, 3, k), Sentences.NONE);
        // Laws and contacts that have been removed since an earlier call are none on the way.
        Probe z = s.told("law 0 10 a b .;law 1 20 a c .;meet 0 1 0 30;meet 1 2 20 30;loan 0 1 a a;loan 0 1 a c");
        s.due(z.road(0, 0, 1, 2, 0), 1);
        s.due(z.road(0, 0, 0, 2, 0), Sentences.NONE);
        s.due(z.repeal(1), 1);
        s.due(z.road(0, 0, 0, 2, 1), 4 * 20 + 2);
        s.due(z.road(0, 0, 1, 2, Sentences.NONE), Sentences.NONE);
        s.due(z.part(0, 1), 1);
        s.due(z.road(0, 0, 0, 2, Sentences.NONE), Sentences.NONE);
        // A longer way that was found before leaves no steps behind.
        s.due(y.road(0, 0, 0, 1, 1), Sentences.NONE);
        s.due(y.road(0, 3, 0, 0, 0), Sentences.NONE);
        s.due(y.road(0, 3, 0, 3, 0), Sentences.NONE);
    }
}
