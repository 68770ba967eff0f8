import java.util.function.ToIntFunction;

/** Promises 6 to 14: law, repeal, meet, part, lend, drop, undo, keep and back. */
final class PromisesOnActs {
    private static final int[] NO_TONGUES = {-1, 4, Sentences.LEAST, Sentences.GREATEST};
    private static final int[] NO_DATES = {-1, 100, Sentences.LEAST, Sentences.GREATEST};
    private static final int[] NO_SOUNDS = {-1, 26, Sentences.LEAST, Sentences.GREATEST};
    private final Sentences s;
    private final Worlds worlds;

    PromisesOnActs(Sentences s) {
        this.s = s;
        worlds = new Worlds(s);
    }

    void all() {
        lawArguments();
        law();
        repeal();
        meet();
        part();
        lend();
        drop();
        undo();
        eightActs();
        keep();
        back();
    }

    private void lawArguments() {
        s.leaves("Promise 6", "`tongue`: the language");
        s.on("Promise 6", "`date`: the date, 1 to 99");
        lawIs(x -> x.law(0, 1, 0, 1, 0, 0), 0, 1, 0, 1, 0, Sentences.NONE);
        lawIs(x -> x.law(0, 99, 0, 1, 0, 0), 0, 99, 0, 1, 0, Sentences.NONE);
        for (int no : new int[] {0, -1, 100, Sentences.LEAST, Sentences.GREATEST}) {
            outside(x -> x.law(0, no, 0, 1, 0, 0));
        }
        s.on("Promise 6", "`x`: the sound that changes, 0 to 25");
        lawIs(x -> x.law(1, 5, 0, 1, 0, 0), 1, 5, 0, 1, 0, Sentences.NONE);
        lawIs(x -> x.law(1, 5, 25, 1, 0, 0), 1, 5, 25, 1, 0, Sentences.NONE);
        for (int no : NO_SOUNDS) outside(x -> x.law(0, 5, no, 1, 0, 0));
        s.on("Promise 6", "`y`: the sound that it becomes, 0 to 25, or NONE if it is lost");
        lawIs(x -> x.law(2, 5, 1, 0, 0, 0), 2, 5, 1, 0, 0, Sentences.NONE);
        lawIs(x -> x.law(2, 5, 1, 25, 0, 0), 2, 5, 1, 25, 0, Sentences.NONE);
        lawIs(x -> x.law(2, 5, 1, -1, 0, 0), 2, 5, 1, Sentences.NONE, 0, Sentences.NONE);
        for (int no : new int[] {-2, 26, Sentences.LEAST, Sentences.GREATEST}) outside(x -> x.law(0, 5, 1, no, 0, 0));
        s.on("Promise 6", "`where`: the environment, 0 to 2");
        lawIs(x -> x.law(3, 5, 1, 2, 0, 3), 3, 5, 1, 2, 0, Sentences.NONE);
        lawIs(x -> x.law(3, 5, 1, 2, 1, 3), 3, 5, 1, 2, 1, 3);
        lawIs(x -> x.law(3, 5, 1, 2, 2, 3), 3, 5, 1, 2, 2, 3);
        for (int no : new int[] {-1, 3, Sentences.LEAST, Sentences.GREATEST}) outside(x -> x.law(0, 5, 1, 2, no, 3));
        s.on("Promise 6", "`z`: the neighbouring sound, 0 to 25; not used and not checked if where is 0");
        for (int where = 1; where <= 2; where++) {
            int there = where;
            lawIs(x -> x.law(0, 5, 1, 2, there, 0), 0, 5, 1, 2, there, 0);
            lawIs(x -> x.law(0, 5, 1, 2, there, 25), 0, 5, 1, 2, there, 25);
            lawIs(x -> x.law(0, 5, 1, 2, there, 1), 0, 5, 1, 2, there, 1);
            for (int no : NO_SOUNDS) outside(x -> x.law(0, 5, 1, 2, there, no));
        }
        for (int z : new int[] {-1, 0, 25, 26, -2, Sentences.LEAST, Sentences.GREATEST}) {
            lawIs(x -> x.law(0, 5, 1, 2, 0, z), 0, 5, 1, 2, 0, Sentences.NONE);
            Probe x = s.told("loan 0 1 bab b");
            s.due(x.law(0, 5, 1, 2, 0, z), 0);
            int[] form = {2, 0, 2};
            for (int i = 0; i < 3; i++) s.due(x.gone(0, 0, 0, 99, i), form[i]);
        }
    }

    private void lawIs(ToIntFunction<Probe> call, int... due) {
        Probe x = s.fresh();
        s.due(call.applyAsInt(x), 0);
        for (int what = 0; what <= 5; what++) s.due(x.told(0, what), due[what]);
    }

    private void outside(ToIntFunction<Probe> call) {
        s.refused(worlds::rich, call, Sentences.OUTSIDE);
    }

    private void unknown(ToIntFunction<Probe> call) {
        s.refused(worlds::rich, call, Sentences.UNKNOWN);
        s.refused(worlds::empty, call, Sentences.UNKNOWN);
    }

    private void law() {
        s.on("Promise 6", "Adds a sound change.");
        Probe x = worlds.rich();
        s.due(x.law(3, 99, 5, 6, 0, 0), 3);
        s.due(x.count(0), 4);
        s.due(x.count(12), 1);
        s.due(x.count(7), 5);
        s.on("Promise 6", "Returns the number of the sound change");
        s.due(x.law(3, 1, 5, 6, 0, 0), 0);
        s.due(x.law(2, 1, 5, 6, 0, 0), 0);
        s.due(x.law(2, 20, 5, 6, 0, 0), 4);
        s.due(x.law(0, 99, 5, 6, 0, 0), 6);
        Probe y = s.told(SentencesOnText.laws(15));
        s.due(y.law(3, 99, 0, 1, 0, 0), 15);
        s.on("Promise 6", "UNKNOWN if there is no such language");
        for (int no : NO_TONGUES) {
            unknown(p -> p.law(no, 5, 0, 1, 0, 0));
            unknown(p -> p.law(no, 0, 26, 26, 3, 26));
            s.refused(worlds::fullOfLaws, p -> p.law(no, 50, 0, 1, 0, 0), Sentences.UNKNOWN);
        }
        s.on("Promise 6", "OUTSIDE if another argument is out of range");
        outside(p -> p.law(0, 0, 26, -2, 3, -1));
        outside(p -> p.law(0, 20, 0, 1, 3, 0));
        outside(p -> p.law(0, 50, 3, 3, 1, 26));
        s.refused(worlds::fullOfLaws, p -> p.law(0, 100, 0, 1, 0, 0), Sentences.OUTSIDE);
        s.on("Promise 6", "NOT if x and y are the same, or the language has a sound change of this date");
        for (int sound : new int[] {0, 1, 25}) {
            s.refused(worlds::rich, p -> p.law(0, 50, sound, sound, 0, 0), Sentences.NOT);
            s.refused(worlds::fullOfLaws, p -> p.law(0, 50, sound, sound, 1, 2), Sentences.NOT);
        }
        s.refused(worlds::rich, p -> p.law(0, 20, 0, 1, 0, 0), Sentences.NOT);
        s.refused(worlds::rich, p -> p.law(2, 30, 23, 2, 1, 24), Sentences.NOT);
        s.refused(worlds::fullOfLaws, p -> p.law(3, 16, 0, 1, 0, 0), Sentences.NOT);
        Probe z = worlds.rich();
        s.due(z.law(0, 21, 0, 1, 0, 0), 2);
        s.due(z.law(0, 19, 0, 1, 0, 0), 1);
        s.due(z.law(1, 20, 0, 1, 0, 0), 3);
        s.on("Promise 6", "FULL if there are 16 sound changes.");
        for (int tongue = 0; tongue < 4; tongue++) {
            int there = tongue;
            s.refused(worlds::fullOfLaws, p -> p.law(there, 99, 0, 1, 0, 0), Sentences.FULL);
        }
        Probe w = worlds.fullOfLaws();
        s.due(w.undo(), 7);
        s.due(w.law(0, 99, 0, 1, 0, 0), 15);
        s.due(w.law(0, 98, 0, 1, 0, 0), Sentences.FULL);
    }

    private void repeal() {
        s.on("Promise 7", "Removes a sound change. The numbers of later ones decrease by 1.");
        Probe x = worlds.fullOfLaws();
        s.due(x.repeal(15), 15);
        s.due(x.told(15, 1), Sentences.UNKNOWN);
        s.due(x.told(14, 1), 15);
        s.due(x.repeal(7), 14);
        for (int law = 0; law < 14; law++) s.due(x.told(law, 1), law < 7 ? law + 1 : law + 2);
        s.due(x.repeal(0), 13);
        for (int law = 0; law < 13; law++) s.due(x.told(law, 1), law < 6 ? law + 2 : law + 3);
        s.due(x.told(13, 1), Sentences.UNKNOWN);
        s.leaves("Promise 7", "`law`: the sound change");
        s.on("Promise 7", "Returns the number of sound changes left");
        Probe y = worlds.fullOfLaws();
        for (int left = 15; left >= 0; left--) s.due(y.repeal(left / 2), left);
        s.due(y.count(0), 0);
        s.on("Promise 7", "UNKNOWN if there is no such sound change.");
        for (int no : new int[] {-1, 3, 15, 16, Sentences.LEAST, Sentences.GREATEST}) unknown(p -> p.repeal(no));
        s.refused(worlds::empty, p -> p.repeal(0), Sentences.UNKNOWN);
        s.refused(worlds::fullOfLaws, p -> p.repeal(16), Sentences.UNKNOWN);
    }

    private void meet() {
        s.on("Promise 8", "Sets the contact from a language to another one, in place of one that is there.");
        Probe x = worlds.rich();
        s.due(x.meet(0, 1, 50, 60), 3);
        s.due(x.meeting(0, 1, 0), 50);
        s.due(x.meeting(0, 1, 1), 60);
        s.due(x.meeting(1, 2, 0), 4);
        s.due(x.meeting(1, 0, 0), Sentences.UNKNOWN);
        s.due(x.count(7), 5);
        s.leaves("Promise 8", "`from`: the first language");
        s.leaves("Promise 8", "`to`: the second language");
        s.on("Promise 8", "`a`: the first date, 0 to 99");
        Probe y = s.fresh();
        s.due(y.meet(0, 1, 0, 99), 1);
        s.due(y.meeting(0, 1, 0), 0);
        s.due(y.meet(0, 1, 99, 99), 1);
        s.due(y.meeting(0, 1, 0), 99);
        for (int no : NO_DATES) outside(p -> p.meet(0, 1, no, 99));
        s.on("Promise 8", "`b`: the last date, a to 99");
        s.due(y.meet(0, 1, 7, 7), 1);
        s.due(y.meeting(0, 1, 1), 7);
        s.due(y.meet(0, 1, 7, 99), 1);
        s.due(y.meeting(0, 1, 1), 99);
        s.due(y.meet(0, 1, 0, 0), 1);
        s.due(y.meeting(0, 1, 1), 0);
        outside(p -> p.meet(0, 1, 7, 6));
        outside(p -> p.meet(0, 1, 99, 98));
        outside(p -> p.meet(0, 1, 1, 0));
        for (int no : NO_DATES) outside(p -> p.meet(0, 1, 0, no));
        s.on("Promise 8", "Returns the number of contacts then");
        Probe z = s.fresh();
        int number = 0;
        for (int pair = 0; pair < 16; pair++) {
            if (pair % 5 != 0) s.due(z.meet(pair / 4, pair % 4, 1, 2), ++number);
        }
        s.due(z.meet(3, 2, 5, 6), 12);
        s.on("Promise 8", "UNKNOWN if there is no such language or both are the same");
        for (int no : NO_TONGUES) {
            unknown(p -> p.meet(no, 1, 0, 9));
            unknown(p -> p.meet(1, no, 0, 9));
            unknown(p -> p.meet(no, no, 100, -1));
        }
        for (int tongue = 0; tongue < 4; tongue++) {
            int same = tongue;
            unknown(p -> p.meet(same, same, 0, 9));
            unknown(p -> p.meet(same, same, 9, 8));
        }
        s.on("Promise 8", "OUTSIDE if a or b is out of range.");
        outside(p -> p.meet(0, 1, 100, 100));
        outside(p -> p.meet(0, 1, -1, -1));
        outside(p -> p.meet(0, 1, Sentences.LEAST, Sentences.GREATEST));
        outside(p -> p.meet(0, 1, Sentences.GREATEST, Sentences.LEAST));
        outside(p -> p.meet(3, 0, 50, 49));
    }

    private void part() {
        s.on("Promise 9", "Removes the contact from a language to another one.");
        Probe x = worlds.rich();
        s.due(x.meet(1, 0, 7, 8), 4);
        s.due(x.part(0, 1), 3);
        s.due(x.meeting(0, 1, 0), Sentences.UNKNOWN);
        s.due(x.meeting(1, 0, 0), 7);
        s.due(x.meeting(1, 2, 1), 80);
        s.due(x.loan(0, 4), 0);
        s.due(x.count(7), 6);
        s.leaves("Promise 9", "`from`: the first language");
        s.leaves("Promise 9", "`to`: the second language");
        s.on("Promise 9", "Returns the number of contacts left");
        s.due(x.part(1, 0), 2);
        s.due(x.part(1, 2), 1);
        s.due(x.part(2, 3), 0);
        s.on("Promise 9", "UNKNOWN if there is no such language, both are the same, or there is no such contact.");
        for (int no : NO_TONGUES) {
            unknown(p -> p.part(no, 1));
            unknown(p -> p.part(1, no));
            unknown(p -> p.part(no, no));
        }
        for (int tongue = 0; tongue < 4; tongue++) {
            int same = tongue;
            unknown(p -> p.part(same, same));
        }
        unknown(p -> p.part(1, 0));
        unknown(p -> p.part(3, 2));
        // Were pairs numbered from * 4 + to without a look at both, these would be others that are there.
        unknown(p -> p.part(0, 6));
        unknown(p -> p.part(2, -3));
    }

    private void lend() {
        s.on("Promise 10", "Adds a loan, whose word is that of another loan, and whose end is the result of borrowing it "
            + "at a date.");
        Probe x = s.told("law 0 10 a b .;law 1 10 b c .;law 1 11 a - .;law 1 12 b d .;loan 2 3 aba zz");
        s.due(x.lend(0, 0, 1, 9), 2);
        formIs(x, 1, 1, "c");
        formIs(x, 1, 0, "aba");
        s.due(x.loan(1, 0), 0);
        s.due(x.loan(1, 1), 1);
        s.due(x.lend(1, 0, 1, 10), 3);
        formIs(x, 2, 1, "ddd");
        s.due(x.lend(0, 2, 1, 0), 4);
        formIs(x, 3, 1, "c");
        s.due(x.count(7), 3);
        Probe y = s.told("law 3 99 a - .;loan 0 1 aaaaaaaa q");
        s.due(y.lend(0, 2, 3, 98), 2);
        formIs(y, 1, 1, "");
        s.due(y.lend(1, 2, 3, 99), 3);
        formIs(y, 2, 1, "aaaaaaaa");
        s.leaves("Promise 10", "`loan`: the loan whose word is taken");
        s.leaves("Promise 10", "`from`: the language from which the new loan is");
        s.leaves("Promise 10", "`to`: the language into which it is");
        s.on("Promise 10", "`date`: the date, 0 to 99; a contact is not necessary");
        Probe z = s.told("law 0 1 a b .;law 1 99 a c .;loan 0 1 a a");
        s.due(z.lend(0, 0, 1, 0), 2);
        formIs(z, 1, 1, "c");
        s.due(z.lend(0, 0, 1, 99), 3);
        formIs(z, 2, 1, "b");
        s.due(z.meet(0, 1, 5, 6), 1);
        s.due(z.lend(0, 0, 1, 99), 4);
        formIs(z, 3, 1, "b");
        for (int no : NO_DATES) outside(p -> p.lend(0, 0, 1, no));
        s.on("Promise 10", "Returns the number of loans then");
        Probe w = s.told("loan 0 1 a a");
        for (int number = 2; number <= 12; number++) s.due(w.lend(number - 2, 1, 0, 9), number);
        lendErrors();
    }

    private void lendErrors() {
        s.on("Promise 10", "UNKNOWN if there is no such loan or language, or both languages are the same");
        for (int no : new int[] {-1, 3, 11, 12, Sentences.LEAST, Sentences.GREATEST}) {
            unknown(p -> p.lend(no, 0, 1, 0));
            unknown(p -> p.lend(no, 0, 1, 100));
        }
        for (int no : NO_TONGUES) {
            unknown(p -> p.lend(0, no, 1, 0));
            unknown(p -> p.lend(0, 1, no, 0));
            unknown(p -> p.lend(0, no, no, -1));
        }
        for (int tongue = 0; tongue < 4; tongue++) {
            int same = tongue;
            unknown(p -> p.lend(0, same, same, 0));
            s.refused(worlds::fullOfLoans, p -> p.lend(0, same, same, 100), Sentences.UNKNOWN);
        }
        s.refused(worlds::fullOfLoans, p -> p.lend(12, 0, 1, 0), Sentences.UNKNOWN);
        s.on("Promise 10", "OUTSIDE if date is out of range");
        s.refused(worlds::fullOfLoans, p -> p.lend(0, 0, 1, 100), Sentences.OUTSIDE);
        s.refused(worlds::fullOfLoans, p -> p.lend(11, 0, 1, -1), Sentences.OUTSIDE);
        outside(p -> p.lend(2, 3, 0, 100));
        s.on("Promise 10", "FULL if there are 12 loans.");
        s.refused(worlds::fullOfLoans, p -> p.lend(0, 0, 1, 0), Sentences.FULL);
        s.refused(worlds::fullOfLoans, p -> p.lend(11, 3, 2, 99), Sentences.FULL);
        Probe x = worlds.fullOfLoans();
        s.due(x.drop(0), 11);
        s.due(x.lend(10, 0, 1, 0), 12);
        s.due(x.lend(11, 0, 1, 0), Sentences.FULL);
    }

    private void formIs(Probe x, int loan, int what, String due) {
        s.due(x.loan(loan, 2 + what), due.length());
        for (int i = 0; i < due.length(); i++) s.due(x.sound(loan, what, i), due.charAt(i) - 'a');
        s.due(x.sound(loan, what, due.length()), Sentences.UNKNOWN);
    }

    private void drop() {
        s.on("Promise 11", "Removes a loan. The numbers of later ones decrease by 1.");
        Probe x = s.told("loan 0 1 a -;loan 0 1 b -;loan 0 1 c -;loan 0 1 d -;loan 0 1 e -;loan 0 1 f -");
        x.tells("loan 0 1 g -;loan 0 1 h -;loan 0 1 i -;loan 0 1 j -;loan 0 1 k -;loan 0 1 l -");
        s.due(x.drop(11), 11);
        s.due(x.loan(11, 0), Sentences.UNKNOWN);
        s.due(x.drop(4), 10);
        for (int loan = 0; loan < 10; loan++) s.due(x.sound(loan, 0, 0), loan < 4 ? loan : loan + 1);
        s.due(x.drop(0), 9);
        for (int loan = 0; loan < 9; loan++) s.due(x.sound(loan, 0, 0), loan < 3 ? loan + 1 : loan + 2);
        s.due(x.sound(9, 0, 0), Sentences.UNKNOWN);
        s.due(x.count(7), 3);
        s.leaves("Promise 11", "`loan`: the loan");
        s.on("Promise 11", "Returns the number of loans left");
        Probe y = worlds.fullOfLoans();
        for (int left = 11; left >= 0; left--) s.due(y.drop(left / 2), left);
        s.due(y.count(2), 0);
        s.on("Promise 11", "UNKNOWN if there is no such loan.");
        for (int no : new int[] {-1, 3, 11, 12, Sentences.LEAST, Sentences.GREATEST}) unknown(p -> p.drop(no));
        s.refused(worlds::empty, p -> p.drop(0), Sentences.UNKNOWN);
        s.refused(worlds::fullOfLoans, p -> p.drop(12), Sentences.UNKNOWN);
    }

    private void undo() {
        s.on("Promise 12", "Undoes the latest call of law(), repeal(), meet(), part(), lend() or drop() that returned no "
            + "error and has not been undone.");
        Probe x = s.told("law 0 9 a b .;loan 0 1 ab b;loan 1 2 c d");
        s.due(x.law(0, 4, 7, 2, 1, 3), 0);
        s.due(x.repeal(1), 1);
        s.due(x.meet(0, 1, 3, 4), 1);
        s.due(x.meet(0, 1, 5, 6), 1);
        s.due(x.part(0, 1), 0);
        s.due(x.lend(0, 1, 2, 3), 3);
        s.due(x.drop(0), 2);
        // Refused calls and those of other methods are none of these.
        s.due(x.law(4, 4, 7, 2, 1, 3), Sentences.UNKNOWN);
        s.due(x.repeal(1), Sentences.UNKNOWN);
        s.due(x.meet(1, 1, 3, 4), Sentences.UNKNOWN);
        s.due(x.part(0, 1), Sentences.UNKNOWN);
        s.due(x.lend(0, 1, 2, 100), Sentences.OUTSIDE);
        s.due(x.drop(2), Sentences.UNKNOWN);
        s.due(x.keep(0), 1);
        s.due(x.type('a'), 1);
        s.due(x.undo(), 6);
        s.due(x.count(2), 3);
        s.due(x.sound(0, 0, 0), 0);
        s.due(x.undo(), 5);
        s.due(x.count(2), 2);
        s.due(x.sound(1, 0, 0), 2);
        s.due(x.undo(), 4);
        s.due(x.meeting(0, 1, 0), 5);
        s.due(x.undo(), 3);
        s.due(x.meeting(0, 1, 1), 4);
        s.due(x.undo(), 2);
        s.due(x.meeting(0, 1, 0), Sentences.UNKNOWN);
        s.due(x.undo(), 1);
        s.due(x.told(1, 1), 9);
        s.due(x.undo(), 0);
        s.due(x.told(0, 1), 9);
        s.due(x.count(0), 1);
        s.due(x.count(8), 1);
        // An act that has been undone is not undone again: the one before it comes next.
        Probe y = s.fresh();
        for (int date = 1; date <= 3; date++) s.due(y.law(0, date, 0, 1, 0, 0), date - 1);
        s.due(y.undo(), 2);
        s.due(y.law(0, 50, 0, 1, 0, 0), 2);
        s.due(y.undo(), 2);
        s.due(y.undo(), 1);
        s.due(y.count(0), 1);
        s.due(y.told(0, 1), 1);
        // Setting a contact to the dates that it has is such a call too.
        s.due(y.meet(0, 1, 2, 3), 1);
        s.due(y.meet(0, 1, 2, 3), 1);
        s.due(y.undo(), 2);
        s.due(y.count(1), 1);
        s.due(y.undo(), 1);
        s.due(y.count(1), 0);
    }

    private void eightActs() {
        s.on("Promise 12", "The last 8 such calls can be undone.");
        for (int acts : new int[] {7, 8, 9, 16}) {
            Probe x = s.fresh();
            for (int date = 1; date <= acts; date++) {
                s.due(x.law(0, date, 0, 1, 0, 0), date - 1);
                s.due(x.count(7), Math.min(date, 8));
            }
            int can = Math.min(acts, 8);
            for (int n = 1; n <= can; n++) {
                s.due(x.undo(), can - n);
                s.due(x.count(0), acts - n);
            }
            s.due(x.undo(), Sentences.NOT);
            s.due(x.count(0), acts - can);
            s.due(x.count(7), 0);
        }
        // Eight acts, undone and done again, are still the last eight.
        Probe y = s.fresh();
        for (int date = 1; date <= 9; date++) s.due(y.law(0, date, 0, 1, 0, 0), date - 1);
        for (int n = 7; n >= 5; n--) s.due(y.undo(), n);
        for (int date = 50; date <= 53; date++) s.due(y.law(0, date, 0, 1, 0, 0), date - 44);
        s.due(y.count(7), 8);
        for (int n = 7; n >= 0; n--) s.due(y.undo(), n);
        s.due(y.undo(), Sentences.NOT);
        s.due(y.count(0), 2);
        s.due(y.told(1, 1), 2);
        s.on("Promise 12", "Returns how many more can be undone");
        Probe z = worlds.rich();
        for (int n = 3; n >= 0; n--) {
            s.due(z.undo(), n);
            s.due(z.count(7), n);
        }
        s.on("Promise 12", "NOT if there is none.");
        s.due(z.undo(), Sentences.NOT);
        s.refused(worlds::settled, Probe::undo, Sentences.NOT);
        s.refused(worlds::empty, Probe::undo, Sentences.NOT);
        s.refused(this::allUndone, Probe::undo, Sentences.NOT);
    }

    private Probe allUndone() {
        Probe x = worlds.fullOfLaws();
        for (int n = 7; n >= 0; n--) s.due(x.undo(), n);
        return x;
    }

    private void keep() {
        s.on("Promise 13", "Saves all sound changes, contacts and loans, in place of what was saved under this number.");
        Probe x = worlds.rich();
        s.due(x.keep(1), 3);
        s.due(x.keep(0), 3);
        s.due(x.count(7), 4);
        s.due(x.count(8), 44);
        for (int n = 3; n >= 0; n--) s.due(x.undo(), n);
        s.due(x.repeal(0), 1);
        s.due(x.part(0, 1), 1);
        s.due(x.drop(0), 1);
        s.due(x.keep(0), 1);
        s.due(x.back(1), 3);
        int[] rich = {3, 3, 3};
        for (int what = 0; what <= 2; what++) s.due(x.count(what), rich[what]);
        s.due(x.told(2, 5), 24);
        s.due(x.meeting(2, 3, 0), 6);
        s.due(x.sound(2, 1, 0), 15);
        s.due(x.back(0), 1);
        int[] poor = {1, 1, 1};
        for (int what = 0; what <= 2; what++) s.due(x.count(what), poor[what]);
        // The state of a new object can be saved too, in place of a full one.
        Probe y = worlds.fullOfLaws();
        s.due(y.erase(), 6);
        y.tells("all");
        s.due(y.keep(1), 0);
        s.due(y.law(0, 9, 0, 1, 0, 0), 0);
        s.due(y.back(1), 0);
        s.due(y.count(0), 0);
        s.due(y.back(0), Sentences.NOT);
        s.on("Promise 13", "`k`: the number, 0 or 1");
        Probe z = s.fresh();
        for (int k = 0; k <= 1; k++) {
            s.due(z.back(k), Sentences.NOT);
            s.due(z.keep(k), 0);
            s.due(z.back(k), 0);
        }
        s.on("Promise 13", "Returns the number of sound changes");
        s.due(s.fresh().keep(0), 0);
        s.due(worlds.rich().keep(0), 3);
        s.due(worlds.fullOfLaws().keep(1), 16);
        s.on("Promise 13", "OUTSIDE if k is not 0 or 1.");
        for (int no : new int[] {-1, 2, Sentences.LEAST, Sentences.GREATEST}) {
            outside(p -> p.keep(no));
            s.refused(worlds::empty, p -> p.keep(no), Sentences.OUTSIDE);
        }
    }

    private void back() {
        s.on("Promise 14", "Restores the saved sound changes, contacts and loans, which stay saved. Nothing can be "
            + "undone then.");
        Probe x = worlds.rich();
        for (int time = 1; time <= 3; time++) {
            s.due(x.back(0), 2);
            int[] due = {2, 2, 2, 1, 0, 1, 1, 0, 44};
            for (int what = 0; what <= 8; what++) s.due(x.count(what), due[what]);
            s.due(x.undo(), Sentences.NOT);
            s.due(x.told(0, 1), 10);
            s.due(x.told(1, 1), 20);
            s.due(x.meeting(2, 3, 0), 5);
            s.due(x.sound(1, 0, 1), 24);
            // What is done next is done to the restored state, not to the saved one.
            s.due(x.repeal(0), 1);
            s.due(x.meet(2, 3, 50, 60), 2);
            s.due(x.drop(1), 1);
            s.due(x.law(0, 1, 5, 6, 0, 0), 0);
            s.due(x.lend(0, 1, 2, 3), 2);
            s.due(x.part(0, 1), 1);
            s.due(x.count(7), 6);
        }
        s.due(x.undo(), 5);
        s.due(x.meeting(0, 1, 0), 0);
        s.on("Promise 14", "`k`: the number, 0 or 1");
        Probe y = s.fresh();
        s.due(y.keep(0), 0);
        s.due(y.law(0, 5, 0, 1, 0, 0), 0);
        s.due(y.keep(1), 1);
        s.due(y.back(0), 0);
        s.due(y.back(1), 1);
        s.on("Promise 14", "Returns the number of sound changes");
        s.due(worlds.fullOfLaws().back(1), 16);
        s.due(worlds.rich().back(0), 2);
        s.on("Promise 14", "OUTSIDE if k is not 0 or 1");
        for (int no : new int[] {-1, 2, Sentences.LEAST, Sentences.GREATEST}) {
            outside(p -> p.back(no));
            s.refused(worlds::empty, p -> p.back(no), Sentences.OUTSIDE);
        }
        s.on("Promise 14", "NOT if nothing is saved under this number.");
        s.refused(worlds::rich, p -> p.back(1), Sentences.NOT);
        s.refused(worlds::settled, p -> p.back(0), Sentences.NOT);
        s.refused(worlds::empty, p -> p.back(0), Sentences.NOT);
        s.refused(worlds::empty, p -> p.back(1), Sentences.NOT);
    }
}
