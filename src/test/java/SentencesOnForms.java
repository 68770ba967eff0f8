/** The document's Description: sounds, forms, dates and sound changes. */
final class SentencesOnForms {
    private static final String HERE = "Description";
    private final Sentences s;

    SentencesOnForms(Sentences s) {
        this.s = s;
    }

    void all() {
        s.leaves(HERE, "Sounds, forms, dates");
        sounds();
        forms();
        languagesAndDates();
        sixteenLaws();
        datesOfLaws();
        environments();
        numbering();
        applying();
        affecting();
        developing();
    }

    private void sounds() {
        s.on(HERE, "Sounds are the letters a to z, as numbers 0 to 25.");
        Probe x = s.told("loan 0 1 az za");
        s.due(x.sound(0, 0, 0), 0);
        s.due(x.sound(0, 0, 1), 25);
        s.due(x.sound(0, 1, 0), 25);
        s.due(x.sound(0, 1, 1), 0);
        s.due(x.law(0, 10, 0, 25, 0, 0), 0);
        s.due(x.law(0, 11, 25, 0, 1, 25), 1);
        s.due(x.law(0, 12, 24, 25, 2, 0), 2);
        s.due(x.law(0, 13, -1, 5, 0, 0), Sentences.OUTSIDE);
        s.due(x.law(0, 13, 26, 5, 0, 0), Sentences.OUTSIDE);
        s.due(x.law(0, 13, 5, -2, 0, 0), Sentences.OUTSIDE);
        s.due(x.law(0, 13, 5, 26, 0, 0), Sentences.OUTSIDE);
        for (int where = 1; where <= 2; where++) {
            s.due(x.law(0, 13, 5, 6, where, -1), Sentences.OUTSIDE);
            s.due(x.law(0, 13, 5, 6, where, 26), Sentences.OUTSIDE);
        }
        fault("law 0 1 a z .", Sentences.NONE);
        fault("law 0 1 z a .", Sentences.NONE);
        // The neighbours of a to z and of A to Z among the bytes, and A and Z themselves.
        for (char sign : new char[] {'`', '{', '@', '[', 'A', 'Z'}) {
            fault("law 0 1 " + sign + " b .", 8);
            fault("law 0 1 a " + sign + " .", 10);
            fault("law 0 1 a b >" + sign, 13);
            fault("loan 0 1 " + sign + " b", 9);
            fault("loan 0 1 b " + sign, 11);
        }
    }

    private void fault(String text, int due) {
        s.due(s.fresh().types(text).fault(), due);
    }

    private void forms() {
        s.on(HERE, "A form is a sequence of 0 to 10 sounds.");
        Probe x = s.told("loan 0 1 abcdefgh abcdefghij;loan 0 1 a -;law 0 5 a - .");
        s.due(x.loan(0, 3), 10);
        s.due(x.sound(0, 1, 9), 9);
        s.due(x.sound(0, 1, 10), Sentences.UNKNOWN);
        s.due(x.loan(1, 3), 0);
        s.due(x.sound(1, 1, 0), Sentences.UNKNOWN);
        s.due(x.gone(1, 0, 0, 4, Sentences.NONE), 1);
        s.due(x.gone(1, 0, 0, 5, Sentences.NONE), 0);
        s.due(x.gone(1, 0, 0, 5, 0), Sentences.UNKNOWN);
        fault("loan 0 1 a abcdefghijk", 11);
    }

    private void languagesAndDates() {
        s.on(HERE, "There are the languages 0 to 3 and the dates 0 to 99.");
        Probe x = s.told("loan 0 3 ab ab;loan 3 0 ab ab");
        s.due(x.law(0, 99, 0, 1, 0, 0), 0);
        s.due(x.law(3, 99, 0, 1, 0, 0), 1);
        s.due(x.meet(0, 3, 0, 99), 1);
        s.due(x.meet(3, 0, 99, 99), 2);
        s.due(x.meet(3, 0, 0, 0), 2);
        s.due(x.gone(0, 3, 0, 98, 0), 0);
        s.due(x.gone(0, 3, 0, 99, 0), 1);
        s.due(x.gone(0, 0, 99, 0, 0), 0);
        s.due(x.taken(0, 0, 0), 1);
        s.due(x.taken(0, 99, 0), 1);
        for (int no : new int[] {-1, 4, Sentences.LEAST, Sentences.GREATEST}) {
            s.due(x.law(no, 5, 0, 1, 0, 0), Sentences.UNKNOWN);
            s.due(x.meet(no, 1, 0, 1), Sentences.UNKNOWN);
            s.due(x.meet(1, no, 0, 1), Sentences.UNKNOWN);
            s.due(x.part(no, 3), Sentences.UNKNOWN);
            s.due(x.part(0, no), Sentences.UNKNOWN);
            s.due(x.lend(0, no, 1, 0), Sentences.UNKNOWN);
            s.due(x.lend(0, 1, no, 0), Sentences.UNKNOWN);
            s.due(x.meeting(no, 3, 0), Sentences.UNKNOWN);
            s.due(x.meeting(0, no, 0), Sentences.UNKNOWN);
            s.due(x.gone(0, no, 0, 1, 0), Sentences.UNKNOWN);
            s.due(x.road(0, no, 0, 1, -1), Sentences.UNKNOWN);
            s.due(x.road(0, 1, 0, no, -1), Sentences.UNKNOWN);
        }
        for (int no : new int[] {-1, 100, Sentences.LEAST, Sentences.GREATEST}) {
            s.due(x.meet(0, 3, no, 99), Sentences.OUTSIDE);
            s.due(x.meet(0, 3, 0, no), Sentences.OUTSIDE);
            s.due(x.lend(0, 0, 3, no), Sentences.OUTSIDE);
            s.due(x.taken(0, no, 0), Sentences.OUTSIDE);
            s.due(x.gone(0, 0, no, 5, 0), Sentences.OUTSIDE);
            s.due(x.gone(0, 0, 5, no, 0), Sentences.OUTSIDE);
            s.due(x.did(0, 1, no), Sentences.OUTSIDE);
        }
        s.due(x.meeting(0, 3, 1), 99);
        fault("meet 0 3 0 99;meet 3 0 0 0;law 0 99 a b .;law 3 99 a b .;loan 3 0 a a", Sentences.NONE);
        fault("meet 4 0 0 1", 5);
        fault("law 4 1 a b .", 4);
        fault("loan 0 4 a a", 7);
    }

    private void sixteenLaws() {
        s.on(HERE, "There are at most 16 sound changes altogether.");
        Probe x = s.fresh();
        for (int i = 0; i < 16; i++) s.due(x.law(i % 4, 1 + i / 4, 0, 1, 0, 0), i);
        for (int tongue = 0; tongue < 4; tongue++) s.due(x.law(tongue, 99, 0, 1, 0, 0), Sentences.FULL);
        s.due(x.count(0), 16);
        s.due(x.types("law 0 99 a b .").fault(), 0);
        s.due(x.repeal(3), 15);
        s.due(x.fault(), Sentences.NONE);
        s.due(x.tell(), 1);
        s.due(x.count(0), 16);
        s.due(x.law(0, 98, 0, 1, 0, 0), Sentences.FULL);
        Probe y = s.fresh();
        for (int i = 0; i < 16; i++) s.due(y.law(2, 99 - i, 0, 1, 0, 0), 0);
        s.due(y.law(2, 1, 0, 1, 0, 0), Sentences.FULL);
        s.due(y.law(0, 1, 0, 1, 0, 0), Sentences.FULL);
        s.due(y.count(11), 16);
    }

    private void datesOfLaws() {
        s.on(HERE, "Each belongs to a language and a date from 1 to 99, and there is at most one for the same "
            + "language and date.");
        Probe x = s.fresh();
        for (int no : new int[] {0, -1, 100, Sentences.LEAST, Sentences.GREATEST}) {
            s.due(x.law(1, no, 0, 1, 0, 0), Sentences.OUTSIDE);
        }
        s.due(x.law(1, 99, 0, 1, 0, 0), 0);
        s.due(x.law(1, 1, 0, 1, 0, 0), 0);
        s.due(x.law(1, 1, 2, 3, 1, 4), Sentences.NOT);
        s.due(x.law(1, 99, 2, 3, 1, 4), Sentences.NOT);
        s.due(x.law(2, 99, 0, 1, 0, 0), 2);
        s.due(x.law(0, 99, 0, 1, 0, 0), 1);
        s.due(x.law(1, 98, 0, 1, 0, 0), 1);
        s.due(x.law(1, 2, 0, 1, 0, 0), 1);
        s.due(x.repeal(0), 5);
        s.due(x.law(1, 1, 2, 3, 1, 4), 0);
        fault("law 1 0 a b .", 6);
        fault("law 1 1 a b .;law 1 99 a b .", Sentences.NONE);
        fault("law 1 100 a b .", 6);
        fault("law 1 1 a b .;law 1 1 c d .", 20);
        fault("law 1 1 a b .;law 2 1 a b .", Sentences.NONE);
    }

    /** What a word becomes by the one sound change of tongue 0, at date 1. */
    private void becomes(int x, int y, int where, int z, String word, String due) {
        Probe p = s.told("loan 0 1 " + word + " a");
        s.due(p.law(0, 1, x - 'a', y == '-' ? Sentences.NONE : y - 'a', where, z - 'a'), 0);
        s.due(p.gone(0, 0, 0, 99, Sentences.NONE), due.length());
        for (int i = 0; i < due.length(); i++) s.due(p.gone(0, 0, 0, 99, i), due.charAt(i) - 'a');
        s.due(p.gone(0, 0, 0, 99, due.length()), Sentences.UNKNOWN);
        s.due(p.gone(0, 0, 0, 99, 10), Sentences.UNKNOWN);
    }

    private void environments() {
        s.on(HERE, "By a sound change a sound x becomes another sound y, or is lost (y is NONE then), in an "
            + "environment: 0 everywhere, 1 directly before a sound z, 2 directly after a sound z.");
        becomes('a', 'z', 0, 'q', "abacadaa", "zbzczdzz");
        becomes('z', 'a', 0, 'q', "zzzzzzzz", "aaaaaaaa");
        becomes('a', '-', 0, 'q', "abacadaa", "bcd");
        becomes('a', '-', 0, 'q', "aaaaaaaa", "");
        becomes('a', '-', 0, 'q', "a", "");
        becomes('a', 'b', 1, 'c', "ac", "bc");
        becomes('a', 'b', 1, 'c', "ca", "ca");
        becomes('a', 'b', 1, 'c', "adc", "adc");
        becomes('a', 'b', 1, 'c', "aac", "abc");
        becomes('a', 'b', 1, 'a', "a", "a");
        becomes('a', 'b', 1, 'z', "zzzzzzaz", "zzzzzzbz");
        becomes('a', '-', 1, 'c', "acacacac", "cccc");
        becomes('a', 'b', 2, 'c', "ca", "cb");
        becomes('a', 'b', 2, 'c', "ac", "ac");
        becomes('a', 'b', 2, 'c', "cda", "cda");
        becomes('a', 'b', 2, 'c', "caa", "cba");
        becomes('a', 'b', 2, 'a', "a", "a");
        becomes('a', 'b', 2, 'z', "zazzzzza", "zbzzzzzb");
        becomes('a', '-', 2, 'c', "cacacaca", "cccc");
    }

    private void numbering() {
        s.on(HERE, "The sound changes are numbered from 0 in ascending order of their dates, and for the same date "
            + "of their languages.");
        Probe x = s.fresh();
        s.due(x.law(2, 50, 0, 1, 0, 0), 0);
        s.due(x.law(3, 50, 0, 1, 0, 0), 1);
        s.due(x.law(0, 51, 0, 1, 0, 0), 2);
        s.due(x.law(3, 49, 0, 1, 0, 0), 0);
        s.due(x.law(1, 50, 0, 1, 0, 0), 1);
        s.due(x.law(0, 50, 0, 1, 0, 0), 1);
        s.due(x.law(3, 99, 0, 1, 0, 0), 6);
        s.due(x.law(3, 1, 0, 1, 0, 0), 0);
        x.tells("law 0 49 a b .;law 2 51 a b .;law 1 51 a b .");
        int[][] due = {{3, 1}, {0, 49}, {3, 49}, {0, 50}, {1, 50}, {2, 50}, {3, 50}, {0, 51}, {1, 51}, {2, 51}, {3, 99}};
        for (int i = 0; i < due.length; i++) {
            s.due(x.told(i, 0), due[i][0]);
            s.due(x.told(i, 1), due[i][1]);
        }
        s.due(x.told(-1, 0), Sentences.UNKNOWN);
        s.due(x.told(due.length, 0), Sentences.UNKNOWN);
    }

    private void applying() {
        s.on(HERE, "To apply a sound change to a form means that each x in it whose neighbour, in the form as it was "
            + "before, is as the environment requires becomes y or is lost.");
        becomes('a', 'b', 1, 'a', "aaaaaaaa", "bbbbbbba");
        becomes('a', 'b', 2, 'a', "aaaaaaaa", "abbbbbbb");
        becomes('a', '-', 1, 'a', "aaaaaaaa", "a");
        becomes('a', '-', 2, 'a', "aaaaaaaa", "a");
        becomes('a', '-', 2, 'a', "baaab", "bab");
        becomes('a', 'b', 1, 'b', "aab", "abb");
        becomes('a', 'b', 2, 'b', "baa", "bba");
        becomes('a', '-', 1, 'b', "aab", "ab");
        becomes('a', '-', 2, 'b', "baa", "ba");
    }

    private void affecting() {
        s.on(HERE, "It affects a form if the form is a different one then.");
        Probe x = s.told("law 1 9 a b >c;law 1 8 d - .;loan 0 1 ac -;loan 0 1 ca -;loan 0 1 cad -;loan 0 1 adc -;"
            + "loan 0 1 d -;loan 0 1 bc -");
        int[] first = {0, 0, 1, 1, 1, 0};
        int[] second = {1, 0, 0, 1, 0, 0};
        for (int loan = 0; loan < 6; loan++) {
            s.due(x.did(loan, 0, 0), first[loan]);
            s.due(x.did(loan, 1, 0), second[loan]);
        }
        s.due(x.did(3, 1, 8), 0);
        s.due(x.did(3, 0, 8), 2);
    }

    private void developing() {
        s.on(HERE, "To develop a form in a language from date d to date e means to apply to it all sound changes of "
            + "the language with dates greater than d and at most e, in the order of their dates (none if e is not "
            + "greater than d).");
        Probe x = s.told("loan 0 1 a b");
        s.due(x.law(2, 20, 1, 2, 0, 0), 0);
        s.due(x.law(2, 10, 0, 1, 0, 0), 0);
        s.due(x.law(2, 99, 2, 3, 0, 0), 2);
        s.due(x.law(3, 15, 1, 25, 0, 0), 1);
        int[][] due = {{0, 99, 3}, {0, 98, 2}, {0, 20, 2}, {0, 19, 1}, {0, 10, 1}, {0, 9, 0}, {9, 10, 1}, {9, 99, 3},
            {10, 99, 0}, {10, 10, 0}, {9, 9, 0}, {10, 9, 0}, {99, 0, 0}, {99, 99, 0}, {98, 99, 0}, {0, 0, 0}, {20, 10, 0}};
        for (int[] row : due) s.due(x.gone(0, 2, row[0], row[1], 0), row[2]);
        s.due(x.gone(0, 1, 0, 99, 0), 0);
        s.due(x.gone(0, 3, 0, 99, 0), 0);
        // Were the later one applied first, a would become b and stay it.
        s.due(x.repeal(1), 3);
        s.due(x.law(2, 9, 1, 2, 0, 0), 0);
        s.due(x.gone(0, 2, 0, 19, 0), 1);
    }
}
