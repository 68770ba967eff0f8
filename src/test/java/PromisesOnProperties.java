/** Promises 15 to 18 and 25: told, meeting, loan, sound and count. */
final class PromisesOnProperties {
    private static final int[] NO_TONGUES = {-1, 4, Sentences.LEAST, Sentences.GREATEST};
    private static final int[] NO_LAWS_OF_RICH = {-1, 3, 15, 16, Sentences.LEAST, Sentences.GREATEST};
    private static final int[] NO_LOANS_OF_RICH = {-1, 3, 11, 12, Sentences.LEAST, Sentences.GREATEST};
    private final Sentences s;
    private final Worlds worlds;

    PromisesOnProperties(Sentences s) {
        this.s = s;
        worlds = new Worlds(s);
    }

    void all() {
        told();
        meeting();
        loan();
        loanErrors();
        sound();
        count();
    }

    private void told() {
        s.on("Promise 15", "Returns a property of a sound change.");
        Probe x = worlds.fullOfLaws();
        for (int law = 0; law < 16; law++) s.due(x.told(law, 1), law + 1);
        s.leaves("Promise 15", "`law`: the sound change");
        s.on("Promise 15", "`what`: 0 for the language, 1 for the date, 2 for x, 3 for y (NONE if x is lost), 4 for the "
            + "environment, 5 for z (NONE if the environment is 0)");
        Probe y = s.fresh();
        int[][] laws = {{0, 1, 0, 25, 1, 0}, {3, 1, 25, 0, 2, 25}, {1, 50, 7, -1, 0, 9}, {2, 99, 3, -1, 1, 25}};
        for (int[] law : laws) y.law(law[0], law[1], law[2], law[3], law[4], law[5]);
        laws[2][5] = Sentences.NONE;
        for (int law = 0; law < 4; law++) {
            for (int what = 0; what <= 5; what++) s.due(y.told(law, what), laws[law][what]);
        }
        s.on("Promise 15", "Returns the property");
        s.due(y.told(3, 5), 25);
        s.on("Promise 15", "UNKNOWN if there is no such sound change");
        for (int no : NO_LAWS_OF_RICH) {
            s.refused(worlds::rich, p -> p.told(no, 0), Sentences.UNKNOWN);
            s.refused(worlds::rich, p -> p.told(no, 6), Sentences.UNKNOWN);
        }
        s.due(worlds.fullOfLaws().told(16, 0), Sentences.UNKNOWN);
        s.due(worlds.empty().told(0, 0), Sentences.UNKNOWN);
        s.on("Promise 15", "OUTSIDE if what is not 0 to 5.");
        for (int no : new int[] {-1, 6, Sentences.LEAST, Sentences.GREATEST}) {
            s.refused(worlds::rich, p -> p.told(0, no), Sentences.OUTSIDE);
            s.due(worlds.fullOfLaws().told(15, no), Sentences.OUTSIDE);
        }
    }

    private void meeting() {
        s.on("Promise 16", "Returns a limit of a contact.");
        Probe x = worlds.rich();
        s.due(x.meeting(1, 2, 0), 4);
        s.due(x.meeting(1, 2, 1), 80);
        s.leaves("Promise 16", "`from`: the first language");
        s.leaves("Promise 16", "`to`: the second language");
        s.on("Promise 16", "`what`: 0 for the first date, 1 for the last date");
        s.due(x.meeting(0, 1, 0), 0);
        s.due(x.meeting(0, 1, 1), 99);
        s.on("Promise 16", "Returns the date");
        s.due(x.meeting(2, 3, 0), 6);
        s.due(x.meeting(2, 3, 1), 8);
        s.on("Promise 16", "UNKNOWN if there is no such language, both are the same, or there is no such contact");
        for (int no : NO_TONGUES) {
            s.refused(worlds::rich, p -> p.meeting(no, 1, 0), Sentences.UNKNOWN);
            s.refused(worlds::rich, p -> p.meeting(1, no, 0), Sentences.UNKNOWN);
            s.refused(worlds::rich, p -> p.meeting(no, no, 2), Sentences.UNKNOWN);
        }
        for (int tongue = 0; tongue < 4; tongue++) {
            s.due(x.meeting(tongue, tongue, 0), Sentences.UNKNOWN);
            s.due(x.meeting(tongue, tongue, 2), Sentences.UNKNOWN);
        }
        s.due(x.meeting(1, 0, 0), Sentences.UNKNOWN);
        s.due(x.meeting(1, 0, -1), Sentences.UNKNOWN);
        s.due(x.meeting(0, 2, 1), Sentences.UNKNOWN);
        // Not the contacts from 1 to 2 and from 2 to 3, though 4 * 0 + 6 and 4 * 3 - 1 would be their numbers.
        s.due(x.meeting(0, 6, 0), Sentences.UNKNOWN);
        s.due(x.meeting(3, -1, 0), Sentences.UNKNOWN);
        s.on("Promise 16", "OUTSIDE if what is not 0 or 1.");
        for (int no : new int[] {-1, 2, Sentences.LEAST, Sentences.GREATEST}) {
            s.refused(worlds::rich, p -> p.meeting(0, 1, no), Sentences.OUTSIDE);
        }
    }

    private void loan() {
        s.on("Promise 17", "Returns a property of a loan.");
        Probe x = worlds.fullOfLoans();
        for (int loan = 1; loan < 12; loan++) s.due(x.loan(loan, 0), (loan + 1) % 3);
        s.leaves("Promise 17", "`loan`: the loan");
        s.on("Promise 17", "`what`: 0 for the language from which it is, 1 for the language into which it is, 2 for the "
            + "number of sounds of the word, 3 for the number of sounds of the end, 4 for the kind, 5 for the number "
            + "of windows, 6 for the first date that fits (NONE if none does), 7 for the last date that fits (NONE if "
            + "none does), 8 for the layer, 9 for the number of loans that are older");
        Probe y = s.told("law 0 20 p b .;law 1 10 p b .;meet 0 1 0 99;meet 2 1 30 40;meet 3 1 9 9;loan 0 1 p b;loan 0 1 p p;"
            + "loan 2 1 pq pq;loan 3 1 p b;loan 3 0 abcdefgh abcdefghij;loan 3 1 p -");
        int none = Sentences.NONE;
        int[][] due = {{0, 1, 1, 1, 2, 2, 0, 99, 1, 0}, {0, 1, 1, 1, 1, 1, 10, 19, 2, 1}, {2, 1, 2, 2, 1, 1, 30, 40, 3, 2},
            {3, 1, 1, 1, 1, 1, 9, 9, 1, 0}, {3, 0, 8, 10, 0, 0, none, none, 0, 0}, {3, 1, 1, 0, 0, 0, none, none, 0, 0}};
        for (int loan = 0; loan < 6; loan++) {
            for (int what = 0; what <= 9; what++) s.due(y.loan(loan, what), due[loan][what]);
        }
        s.on("Promise 17", "Returns the property");
        s.due(y.loan(3, 0), 3);
        s.due(y.loan(4, 3), 10);
    }

    private void loanErrors() {
        s.on("Promise 17", "UNKNOWN if there is no such loan");
        for (int no : NO_LOANS_OF_RICH) {
            s.refused(worlds::rich, p -> p.loan(no, 8), Sentences.UNKNOWN);
            s.refused(worlds::rich, p -> p.loan(no, 10), Sentences.UNKNOWN);
        }
        for (int what = 0; what <= 9; what++) {
            s.due(worlds.empty().loan(0, what), Sentences.UNKNOWN);
            s.due(worlds.fullOfLoans().loan(12, what), Sentences.UNKNOWN);
        }
        s.on("Promise 17", "OUTSIDE if what is not 0 to 9.");
        for (int no : new int[] {-1, 10, Sentences.LEAST, Sentences.GREATEST}) {
            s.refused(worlds::rich, p -> p.loan(0, no), Sentences.OUTSIDE);
            s.due(worlds.fullOfLoans().loan(11, no), Sentences.OUTSIDE);
        }
    }

    private void sound() {
        s.on("Promise 18", "Returns a sound of the word or the end of a loan.");
        Probe x = s.told("loan 0 1 abcdefgz zabcdefghi;loan 0 1 m -");
        s.due(x.sound(0, 0, 3), 3);
        s.due(x.sound(0, 1, 3), 2);
        s.leaves("Promise 18", "`loan`: the loan");
        s.on("Promise 18", "`what`: 0 for the word, 1 for the end");
        s.due(x.sound(0, 0, 0), 0);
        s.due(x.sound(0, 1, 0), 25);
        s.due(x.sound(1, 0, 0), 12);
        s.on("Promise 18", "`i`: the index of the sound, from 0");
        for (int i = 0; i < 8; i++) s.due(x.sound(0, 0, i), i == 7 ? 25 : i);
        for (int i = 0; i < 10; i++) s.due(x.sound(0, 1, i), i == 0 ? 25 : i - 1);
        s.on("Promise 18", "Returns the sound; UNKNOWN if there is no such loan");
        s.due(x.sound(0, 0, 7), 25);
        for (int no : NO_LOANS_OF_RICH) {
            s.refused(worlds::rich, p -> p.sound(no, 0, 0), Sentences.UNKNOWN);
            s.refused(worlds::rich, p -> p.sound(no, 2, 0), Sentences.UNKNOWN);
        }
        s.due(worlds.empty().sound(0, 0, 0), Sentences.UNKNOWN);
        s.due(worlds.fullOfLoans().sound(12, 0, 0), Sentences.UNKNOWN);
        s.on("Promise 18", "OUTSIDE if what is not 0 or 1");
        for (int no : new int[] {-1, 2, Sentences.LEAST, Sentences.GREATEST}) {
            s.refused(worlds::rich, p -> p.sound(0, no, 0), Sentences.OUTSIDE);
            s.refused(worlds::rich, p -> p.sound(0, no, 1), Sentences.OUTSIDE);
        }
        s.on("Promise 18", "UNKNOWN if there is no such sound.");
        for (int no : new int[] {-1, 8, 10, Sentences.LEAST, Sentences.GREATEST}) s.due(x.sound(0, 0, no), Sentences.UNKNOWN);
        for (int no : new int[] {-1, 10, 11, Sentences.LEAST, Sentences.GREATEST}) s.due(x.sound(0, 1, no), Sentences.UNKNOWN);
        for (int no : new int[] {-1, 0, 1, Sentences.LEAST, Sentences.GREATEST}) s.due(x.sound(1, 1, no), Sentences.UNKNOWN);
        s.refused(worlds::rich, p -> p.sound(1, 0, 2), Sentences.UNKNOWN);
        s.refused(worlds::rich, p -> p.sound(1, 1, 0), Sentences.UNKNOWN);
    }

    private void count() {
        s.on("Promise 25", "Returns a number that describes the object.");
        int[] rich = {3, 3, 3, 1, 1, 1, 1, 4, 44, 1, 1, 1, 0};
        Probe x = worlds.rich();
        for (int what = 0; what <= 12; what++) s.due(x.count(what), rich[what]);
        s.on("Promise 25", "`what`: 0 for the number of sound changes, 1 for contacts, 2 for loans, 3 to 5 for loans of "
            + "kind 0 to 2, 6 for the greatest layer of all loans (0 without loans), 7 for how many acts can be undone, "
            + "8 for the length of the text, 9 to 12 for the number of sound changes of language 0 to 3");
        int[] laws = {16, 1, 1, 1, 0, 0, 0, 8, 6, 4, 4, 4, 4};
        Probe y = worlds.fullOfLaws();
        for (int what = 0; what <= 12; what++) s.due(y.count(what), laws[what]);
        int[] loans = {1, 0, 12, 12, 0, 0, 0, 8, 13, 1, 0, 0, 0};
        Probe z = worlds.fullOfLoans();
        for (int what = 0; what <= 12; what++) s.due(z.count(what), loans[what]);
        int[] text = {1, 1, 1, 0, 1, 0, 1, 1, 200, 1, 0, 0, 0};
        Probe w = worlds.fullOfText();
        for (int what = 0; what <= 12; what++) s.due(w.count(what), text[what]);
        Probe v = worlds.empty();
        for (int what = 0; what <= 12; what++) s.due(v.count(what), 0);
        // The greatest layer need not be that of the last loan, nor of the first.
        Probe u = s.told("meet 0 1 0 5;meet 2 1 6 9;loan 0 1 a a;loan 2 1 a a;loan 0 1 b b");
        s.due(u.count(6), 2);
        s.on("Promise 25", "Returns the number");
        s.due(u.count(1), 2);
        s.due(u.count(4), 3);
        s.on("Promise 25", "OUTSIDE if what is not 0 to 12.");
        for (int no : new int[] {-1, 13, Sentences.LEAST, Sentences.GREATEST}) {
            s.refused(worlds::rich, p -> p.count(no), Sentences.OUTSIDE);
            s.refused(worlds::empty, p -> p.count(no), Sentences.OUTSIDE);
        }
    }
}
