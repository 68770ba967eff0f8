/** The document's Description: the text, its tokens, its clauses and its fault. */
final class SentencesOnText {
    private static final String HERE = "Description";
    private final Sentences s;

    SentencesOnText(Sentences s) {
        this.s = s;
    }

    void all() {
        twoHundredBytes();
        clauses();
        s.leaves(HERE, "The clauses are, where T and S are languages:");
        allClause();
        lawClause();
        meetClause();
        loanClause();
        letters();
        oneAfterTheOther();
        tokens();
        blanks();
        numbers();
        faults();
        wrongNumbers();
        sameTongue();
        lessThanA();
        sameSound();
        tooManyLetters();
        sameDate();
        sixteenLaws();
        twelveLoans();
        twentyFourClauses();
        then();
    }

    private void fault(String text, int due) {
        s.due(s.fresh().types(text).fault(), due);
    }

    private void right(String text) {
        fault(text, Sentences.NONE);
    }

    static String laws(int number) {
        StringBuilder b = new StringBuilder();
        for (int i = 1; i <= number; i++) b.append(i == 1 ? "law2 " : ";law2 ").append(i).append("a b.");
        return b.toString();
    }

    static String loans(int number) {
        return ";loan0 1a b".repeat(number).substring(1);
    }

    private void twoHundredBytes() {
        s.on(HERE, "A text has at most 200 bytes.");
        Probe x = s.fresh();
        for (int i = 1; i <= 197; i++) s.due(x.type(' '), i);
        s.due(x.type('a'), 198);
        s.due(x.type('l'), 199);
        s.due(x.fault(), 197);
        s.due(x.type('l'), 200);
        s.due(x.fault(), Sentences.NONE);
        s.due(x.type('l'), Sentences.FULL);
        s.due(x.count(8), 200);
        s.due(x.fault(), Sentences.NONE);
        s.due(x.tell(), 1);
        s.due(x.count(8), 0);
        s.due(x.type('l'), 1);
        // The words stand at both ends of a text that is full.
        Probe y = s.fresh().types("loan 0 1 a" + " ".repeat(181) + "bcdefghij");
        s.due(y.count(8), 200);
        s.due(y.tell(), 1);
        s.due(y.loan(0, 3), 9);
        s.due(y.sound(0, 1, 8), 9);
        fault(" ".repeat(200), 200);
        fault(" ".repeat(199) + ";", 199);
        fault(" ".repeat(197) + "law", 200);
        fault("all;" + " ".repeat(196), 200);
    }

    private void clauses() {
        s.on(HERE, "It consists of 1 to 24 clauses, separated by semicolons.");
        fault("", 0);
        fault(";", 0);
        right("all");
        fault("all;", 4);
        fault(";all", 0);
        fault("all;;all", 4);
        fault("all all", 4);
        fault("all,all", 3);
        fault("all:all", 3);
        right("all;".repeat(22) + "all");
        right("all;".repeat(23) + "all");
        fault("all;".repeat(24) + "all", 95);
        for (int number : new int[] {1, 2, 23, 24}) {
            s.due(s.fresh().types("all;".repeat(number - 1) + "all").tell(), number);
        }
        words("all", "");
        words("law", " 0 1 a b .");
        words("meet", " 0 1 2 3");
        words("loan", " 0 1 a b");
    }

    /** A clause begins with its word, and with none that has a letter more, less or other. */
    private void words(String word, String rest) {
        right(word + rest);
        fault("x" + word + rest, 0);
        fault(word + "x" + rest, 0);
        for (int i = 0; i < word.length(); i++) {
            fault(word.substring(0, i) + word.substring(i + 1) + rest, 0);
            fault(word.substring(0, i) + "x" + word.substring(i + 1) + rest, 0);
        }
    }

    private void allClause() {
        s.on(HERE, "all removes all sound changes, contacts and loans");
        Probe x = s.told(laws(12));
        x.tells("law 0 1 a b .;law 1 1 a b .;law 3 99 a b .;law 3 98 a b .;meet 0 1 0 99;meet 3 2 0 99;" + loans(2));
        s.due(x.count(0), 16);
        x.tells("all");
        for (int what = 0; what <= 12; what++) s.due(x.count(what), 0);
        s.due(x.told(0, 0), Sentences.UNKNOWN);
        s.due(x.loan(0, 0), Sentences.UNKNOWN);
        s.due(x.meeting(0, 1, 0), Sentences.UNKNOWN);
        s.due(x.meeting(3, 2, 0), Sentences.UNKNOWN);
        x.tells("all");
        s.due(x.count(0), 0);
        x.tells("law 0 1 a b .;all;meet 1 2 3 4");
        s.due(x.count(0), 0);
        s.due(x.count(1), 1);
    }

    private void law(String text, int... due) {
        Probe x = s.told(text);
        for (int what = 0; what <= 5; what++) s.due(x.told(0, what), due[what]);
        s.due(x.count(0), 1);
    }

    private void lawClause() {
        s.on(HERE, "law T D X Y W adds a sound change of language T and date D, 1 to 99, by which X becomes Y; X is a "
            + "letter, Y another letter, or - if X is lost; W is . (everywhere), or > and a letter (before it), or < "
            + "and a letter (after it)");
        law("law 0 1 a z .", 0, 1, 0, 25, 0, Sentences.NONE);
        law("law 3 99 z - >a", 3, 99, 25, Sentences.NONE, 1, 0);
        law("law 1 50 b c <z", 1, 50, 1, 2, 2, 25);
        law("law 1 50 b c > b", 1, 50, 1, 2, 1, 1);
        law("law 1 50 b - < c", 1, 50, 1, Sentences.NONE, 2, 2);
        fault("law 0 0 a b .", 6);
        fault("law 0 100 a b .", 6);
        fault("law 0 1 - b .", 8);
        fault("law 0 1 a a .", 10);
        fault("law 0 1 a . .", 10);
        fault("law 0 1 a b -", 12);
        fault("law 0 1 a b =", 12);
        fault("law 0 1 a b c", 12);
        fault("law 0 1 a b . c", 14);
        fault("law 0 1 a b > .", 14);
        fault("law 0 1 a b > -", 14);
        fault("law 0 1 a b < 1", 14);
        fault("law 0 1 a b >a b", 15);
        String whole = "law 0 1 a b >";
        for (int length : new int[] {3, 4, 5, 7, 9, 11, 13}) fault(whole.substring(0, length), length);
        for (int place : new int[] {3, 5, 7, 9, 11, 13}) fault(whole.substring(0, place) + ";all", place);
    }

    private void meetClause() {
        s.on(HERE, "meet S T A B sets the contact from S to T to the dates A to B, in place of one that is there");
        Probe x = s.told("meet 0 3 0 99;meet 3 0 5 5");
        s.due(x.meeting(0, 3, 0), 0);
        s.due(x.meeting(0, 3, 1), 99);
        s.due(x.meeting(3, 0, 0), 5);
        s.due(x.meeting(3, 0, 1), 5);
        x.tells("meet 0 3 98 99");
        s.due(x.meeting(0, 3, 0), 98);
        s.due(x.count(1), 2);
        x.tells("meet 0 3 1 2;meet 0 3 0 0");
        s.due(x.meeting(0, 3, 1), 0);
        s.due(x.count(1), 2);
        String whole = "meet 0 1 2 3";
        for (int length : new int[] {4, 6, 8, 10}) {
            fault(whole.substring(0, length), length);
            fault(whole.substring(0, length) + ";all", length);
            fault(whole.substring(0, length) + " a", length + 1);
        }
        fault("meet 0 1 2 3 4", 13);
    }

    private void loanClause() {
        s.on(HERE, "loan S T W E adds a loan from S to T with the word W, 1 to 8 letters, and the end E, 1 to 10 "
            + "letters, or - for the empty form");
        Probe x = s.told("loan 3 0 z -;loan 0 3 abcdefgh abcdefghij;loan 1 2 b c");
        int[][] due = {{3, 0, 1, 0}, {0, 3, 8, 10}, {1, 2, 1, 1}};
        for (int loan = 0; loan < 3; loan++) {
            for (int what = 0; what <= 3; what++) s.due(x.loan(loan, what), due[loan][what]);
        }
        for (int i = 0; i < 8; i++) s.due(x.sound(1, 0, i), i);
        for (int i = 0; i < 10; i++) s.due(x.sound(1, 1, i), i);
        s.due(x.sound(0, 0, 0), 25);
        s.due(x.sound(2, 1, 0), 2);
        fault("loan 0 1 - a", 9);
        fault("loan 0 1 abcdefghi a", 9);
        fault("loan 0 1 a abcdefghijk", 11);
        fault("loan 0 1 a --", 12);
        fault("loan 0 1 a -a", 12);
        fault("loan 0 1 a .", 11);
        String whole = "loan 0 1 a b";
        for (int length : new int[] {4, 6, 8, 10}) {
            fault(whole.substring(0, length), length);
            fault(whole.substring(0, length) + ";all", length);
        }
        fault("loan 0 1 2 b", 9);
        fault("loan 0 1 a 2", 11);
        fault("loan 0 1 a b c", 13);
        fault("loan a 1 a b", 5);
        fault("loan 0 a a b", 7);
    }

    private void letters() {
        s.on(HERE, "Letters are a to z.");
        Probe x = s.told("loan 0 1 abcdefgh ijklmnopqr;loan 0 1 stuvwxyz -");
        for (int i = 0; i < 26; i++) {
            int got = i < 8 ? x.sound(0, 0, i) : i < 18 ? x.sound(0, 1, i - 8) : x.sound(1, 0, i - 18);
            s.due(got, i);
        }
        fault("All", 0);
        fault("ALL", 0);
        fault("LAW 0 1 a b .", 0);
        fault("loan 0 1 A b", 9);
        fault("loan 0 1 aZ b", 10);
        fault("loan 0 1 a b" + (char) 224, 12);
        fault("loan 0 1 a " + (char) 228, 11);
        fault("loan 0 1 a `", 11);
        fault("loan 0 1 a {", 11);
    }

    private void oneAfterTheOther() {
        s.on(HERE, "Clauses are added to what is there, one after the other.");
        Probe x = s.told("law 0 5 a b .;meet 0 1 2 3;loan 0 1 a a");
        x.tells("law 0 4 c d .;meet 1 0 2 3;meet 0 1 7 8;loan 1 2 b b");
        int[] due = {2, 2, 2};
        for (int what = 0; what <= 2; what++) s.due(x.count(what), due[what]);
        s.due(x.told(0, 1), 4);
        s.due(x.told(1, 1), 5);
        s.due(x.meeting(0, 1, 0), 7);
        s.due(x.sound(0, 0, 0), 0);
        s.due(x.sound(1, 0, 0), 1);
        x.tells("loan 0 1 c c;all;loan 0 1 d d;law 0 5 x y .");
        s.due(x.count(2), 1);
        s.due(x.sound(0, 0, 0), 3);
        s.due(x.count(0), 1);
        s.due(x.told(0, 2), 23);
    }

    private void tokens() {
        s.on(HERE, "A token is a longest sequence of letters, a longest sequence of digits, or any other single byte "
            + "except the blank (32).");
        fault("al l", 0);
        fault("allall", 0);
        fault("alllaw", 0);
        fault("xall", 0);
        fault("law01 a b.", 6);
        fault("law 012 a b .", 4);
        fault("law 0 1 ab .", 8);
        fault("law 0 1 a bc.", 10);
        fault("law 0 1 a b >cd", 13);
        fault("meet01 2 3", 10);
        fault("meet 0 1 23 4", 12);
        fault("meet 0 1 234", 9);
        fault("loan 0 1 ab", 11);
        fault("loan0 1a b1", 10);
        fault("law 0 1 a b ..", 13);
        fault("law 0 1 a b <<a", 13);
        fault("law 0 1 a -- .", 11);
        for (int sign = 0; sign < 256; sign++) {
            boolean blank = sign == ' ';
            boolean digit = '0' <= sign && sign <= '9';
            boolean letter = 'a' <= sign && sign <= 'z';
            fault("all" + (char) sign, blank ? Sentences.NONE : sign == ';' ? 4 : letter ? 0 : 3);
            fault("" + (char) sign + "all", blank ? Sentences.NONE : 0);
            fault("meet 0 1 2 3" + (char) sign, blank || digit ? Sentences.NONE : sign == ';' ? 13 : 12);
        }
    }

    private void blanks() {
        s.on(HERE, "Blanks can stand before, between and behind tokens, and are not necessary where tokens end "
            + "without them.");
        right("   all   ");
        right("all ; all");
        right("   law   3   9   a   -   >   b   ;   all   ");
        right("law3 9a->b;all");
        right("law3 9a b.;all;meet0 1 2 3;loan0 1a-");
        right("loan0 1a b;loan0 1a-;all");
        right("law0 9a b<c");
        fault("law3 9ab.", 6);
        fault("law39a b.", 3);
        fault("l aw 3 9 a b .", 0);
        fault("all" + (char) 9, 3);
        fault("all" + (char) 10, 3);
        fault((char) 0 + "all", 0);
        fault("all;" + (char) 160 + "all", 4);
        fault(" ", 1);
        fault("all; ", 5);
        fault("  law  0  ", 10);
        law(" law3 09z->a ", 3, 9, 25, Sentences.NONE, 1, 0);
    }

    private void numbers() {
        s.on(HERE, "A number has 1 or 2 digits (01 is allowed).");
        right("meet 00 03 00 09");
        right("law 01 01 a b .");
        right("law 1 10 a b .");
        fault("meet 000 1 2 3", 5);
        fault("meet 0 001 2 3", 7);
        fault("meet 0 1 002 3", 9);
        fault("meet 0 1 2 003", 11);
        fault("law 0 001 a b .", 6);
        fault("law 000 1 a b .", 4);
        fault("loan 0 001 a b", 7);
        fault("law 0 00 a b .", 6);
        Probe x = s.told("meet 01 02 03 09;law 00 07 a b .");
        s.due(x.meeting(1, 2, 0), 3);
        s.due(x.meeting(1, 2, 1), 9);
        s.due(x.told(0, 0), 0);
        s.due(x.told(0, 1), 7);
        s.due(s.told("meet 1 2 10 99").meeting(1, 2, 1), 99);
    }

    private void faults() {
        s.on(HERE, "The fault of a text is the position, from 0, of the first byte of the first token that cannot "
            + "stand there, with the present sound changes and loans; if the text ends too early, it is its length.");
        fault("x", 0);
        fault("   xyz", 3);
        fault("all  xyz", 5);
        fault("all;  xyz;uvw", 6);
        fault("law 9 999 ab aa", 4);
        fault("law 0 999 ab aa", 6);
        fault("law 0 9 ab aa", 8);
        fault("law 0 9 a aa", 10);
        fault("", 0);
        fault("all;", 4);
        fault("all;   ", 7);
        fault("law 0 9 a", 9);
        fault("law 0 9 a    ", 13);
        fault("meet 0 1 2", 10);
        fault("loan 0 1 abc", 12);
        // What is there changes under a text that stays.
        Probe x = s.fresh().types("law 0 20 a b .;loan 0 1 a a");
        s.due(x.fault(), Sentences.NONE);
        s.due(x.law(0, 20, 5, 6, 0, 0), 0);
        s.due(x.fault(), 6);
        s.due(x.undo(), 0);
        s.due(x.fault(), Sentences.NONE);
        s.due(x.law(1, 20, 5, 6, 0, 0), 0);
        s.due(x.fault(), Sentences.NONE);
        for (int date = 1; date <= 15; date++) s.due(x.law(3, date, 5, 6, 0, 0), date - 1);
        s.due(x.fault(), 0);
        s.due(x.repeal(0), 15);
        s.due(x.fault(), Sentences.NONE);
    }

    private void wrongNumbers() {
        s.on(HERE, "Wrong is also: a number out of its range or with more digits;");
        right("law 0 1 a b .");
        right("law 3 99 a b .");
        fault("law 4 1 a b .", 4);
        fault("law 99 1 a b .", 4);
        fault("law 0 0 a b .", 6);
        fault("law 0 100 a b .", 6);
        fault("law 0 4294967297 a b .", 6);
        right("meet 0 3 0 99");
        right("meet 3 0 99 99");
        fault("meet 4 0 0 9", 5);
        fault("meet 10 0 0 9", 5);
        fault("meet 3 4 0 9", 7);
        fault("meet 3 0 100 100", 9);
        fault("meet 3 0 0 100", 11);
        fault("meet 3 0 0 4294967297", 11);
        fault("meet -1 0 0 9", 5);
        right("loan 3 0 a a");
        fault("loan 4 0 a a", 5);
        fault("loan 0 4 a a", 7);
        fault("loan 0 001 a a", 7);
        fault("law 0 " + "0".repeat(190) + "1", 6);
    }

    private void sameTongue() {
        s.on(HERE, "the T of meet or loan if it equals S;");
        for (int tongue = 0; tongue < 4; tongue++) {
            fault("meet " + tongue + " " + tongue + " 0 9", 7);
            fault("meet " + tongue + " 0" + tongue + " 0 9", 7);
            fault("loan " + tongue + " " + tongue + " a a", 7);
            fault("loan 0" + tongue + " " + tongue + " a a", 8);
        }
    }

    private void lessThanA() {
        s.on(HERE, "the B of meet if it is less than A;");
        fault("meet 0 1 5 4", 11);
        right("meet 0 1 5 5");
        right("meet 0 1 5 6");
        right("meet 0 1 0 0");
        fault("meet 0 1 1 0", 11);
        fault("meet 0 1 99 98", 12);
        right("meet 0 1 99 99");
        fault("meet 0 1 10 9", 12);
        fault("meet 0 1 10 09", 12);
    }

    private void sameSound() {
        s.on(HERE, "the Y of law if it equals X;");
        fault("law 0 1 a a .", 10);
        fault("law 0 1 z z .", 10);
        right("law 0 1 a b .");
        right("law 0 1 a - .");
        right("law 0 1 a b >a");
        right("law 0 1 a b <b");
    }

    private void tooManyLetters() {
        s.on(HERE, "a sequence of more letters than allowed;");
        right("loan 0 1 aaaaaaaa b");
        fault("loan 0 1 aaaaaaaaa b", 9);
        right("loan 0 1 a bbbbbbbbbb");
        fault("loan 0 1 a bbbbbbbbbbb", 11);
        fault("loan 0 1 a " + "b".repeat(189), 11);
        fault("loan 0 1 " + "b".repeat(191), 9);
        fault("law 0 1 aa b .", 8);
        fault("law 0 1 a bb .", 10);
        fault("law 0 1 a b >cc", 13);
        fault("law 0 1 a b <cc", 13);
    }

    private void sameDate() {
        s.on(HERE, "the D of law if there is a sound change of this language and date then;");
        fault("law 1 20 a b .;law 1 20 a b .", 21);
        fault("law 1 20 a b .;law 1 20 c d >e", 21);
        fault("law 1 2 a b .;law 01 02 c d .", 21);
        right("law 1 20 a b .;law 1 21 a b .");
        right("law 1 20 a b .;law 1 19 a b .");
        right("law 1 20 a b .;law 0 20 a b .;law 2 20 a b .");
        Probe x = s.told("law 1 20 a b .");
        s.due(x.types("law 1 20 c d .").fault(), 6);
        s.due(x.tell(), Sentences.NOT);
        s.due(x.repeal(0), 0);
        s.due(x.tell(), 1);
        s.due(x.told(0, 2), 2);
    }

    private void sixteenLaws() {
        s.on(HERE, "the word law if there are 16 sound changes then;");
        right(laws(15));
        right(laws(16));
        fault(laws(16) + ";law", laws(16).length() + 1);
        // The word is wrong even if what follows it would be so too, or nothing follows.
        Probe x = s.told(laws(16));
        for (String text : new String[] {"law", "law x", "law 2 1 a b .", "law 0 1 a b ."}) {
            s.due(x.types("  " + text).fault(), 2);
            s.due(x.erase(), 2 + text.length());
        }
        s.due(x.types("loan 0 1 a b;meet 0 1 2 3").fault(), Sentences.NONE);
        Probe y = s.told(laws(15));
        s.due(y.types("law 0 1 a b .;law 0 2 a b .").fault(), 14);
    }

    private void twelveLoans() {
        s.on(HERE, "the word loan if there are 12 loans then;");
        right(loans(11));
        right(loans(12));
        fault(loans(13), loans(12).length() + 1);
        Probe x = s.told(loans(12));
        for (String text : new String[] {"loan", "loan x", "loan 0 1 a b"}) {
            s.due(x.types(" " + text).fault(), 1);
            s.due(x.erase(), 1 + text.length());
        }
        s.due(x.types("law 0 1 a b .;meet 0 1 2 3").fault(), Sentences.NONE);
        Probe y = s.told(loans(11));
        s.due(y.types("loan 0 1 a b;loan 0 1 a b").fault(), 13);
    }

    private void twentyFourClauses() {
        s.on(HERE, "the semicolon behind the 24th clause.");
        right("all;".repeat(23) + "all");
        right("all;".repeat(23) + "all  ");
        fault("all;".repeat(23), 92);
        fault("all;".repeat(23) + ";", 92);
        fault("all;".repeat(24), 95);
        fault("all;".repeat(24) + "all", 95);
        fault("all;".repeat(24) + ";x", 95);
        fault("all;".repeat(23) + "all  ;", 97);
        fault("all;".repeat(23) + "all x", 96);
        fault("all;".repeat(23) + "meet 0 1 2 3;", 104);
    }

    private void then() {
        s.on(HERE, "\"Then\" takes into account what is there now and the clauses before.");
        right(laws(16) + ";all;law2 1a b.");
        right("law 1 20 a b .;all;law 1 20 a b .");
        right(loans(12) + ";all;" + loans(2));
        Probe x = s.told(laws(16));
        s.due(x.types("all;law 2 1 a b .;law 2 1 a b .").fault(), 24);
        s.due(x.erase(), 31);
        s.due(x.types("all;" + laws(16)).fault(), Sentences.NONE);
        s.due(x.tell(), 17);
        s.due(x.count(0), 16);
        Probe y = s.told(loans(12));
        s.due(y.types("all;" + loans(13)).fault(), 4 + loans(12).length() + 1);
        s.due(y.tell(), Sentences.NOT);
        s.due(y.count(2), 12);
        Probe z = s.told("law 1 20 a b .");
        s.due(z.types("law 1 21 a b .;law 1 20 a b .").fault(), 21);
        // What has been told and undone, or is only kept, is not there now.
        Probe w = s.fresh();
        s.due(w.law(1, 20, 0, 1, 0, 0), 0);
        s.due(w.keep(0), 1);
        s.due(w.undo(), 0);
        s.due(w.types("law 1 20 a b .").fault(), Sentences.NONE);
        s.due(w.back(0), 1);
        s.due(w.fault(), 6);
    }
}
