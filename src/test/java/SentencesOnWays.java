/** The document's Description: the way of a word from language to language. */
final class SentencesOnWays {
    private static final String HERE = "Description";
    private final Sentences s;

    SentencesOnWays(Sentences s) {
        this.s = s;
    }

    void all() {
        allDates();
        changesFirst();
        severalAtOneDate();
        changesOfTheNewTongue();
        steps();
        threeSteps();
        visits();
        fewestAndFirst();
    }

    /** The way of loan 0's word from one tongue to the end of loan 0 in another one: dates and tongues. */
    private void way(Probe x, int from, int to, int... due) {
        s.due(x.road(0, from, 0, to, Sentences.NONE), due.length / 2);
        for (int k = 0; k < due.length / 2; k++) s.due(x.road(0, from, 0, to, k), 4 * due[2 * k] + due[2 * k + 1]);
        s.due(x.road(0, from, 0, to, due.length / 2), Sentences.NONE);
    }

    private void noWay(Probe x, int from, int to) {
        for (int k = Sentences.NONE; k <= 3; k++) s.due(x.road(0, from, 0, to, k), Sentences.NONE);
    }

    private void allDates() {
        s.on(HERE, "A form is in a language at date 0 and passes through all dates up to 99.");
        Probe x = s.told("law 0 1 a b .;law 0 99 b c .;loan 0 1 a c");
        way(x, 0, 0);
        noWay(x, 1, 1);
        s.due(x.repeal(1), 1);
        noWay(x, 0, 0);
        Probe y = s.told("meet 0 1 0 0;loan 0 1 a a;law 0 1 a b .");
        way(y, 0, 1, 0, 1);
        s.due(y.meet(0, 1, 1, 1), 1);
        noWay(y, 0, 1);
        Probe z = s.told("meet 0 1 99 99;law 0 99 a b .;loan 0 1 a b");
        way(z, 0, 1, 99, 1);
    }

    private void changesFirst() {
        s.on(HERE, "At each date, first the sound changes of this date of the language in which the form is are "
            + "applied.");
        Probe x = s.told("law 0 50 a b .;meet 0 1 50 50;loan 0 1 a b");
        way(x, 0, 1, 50, 1);
        s.due(x.meet(0, 1, 49, 50), 1);
        way(x, 0, 1, 50, 1);
        s.due(x.meet(0, 1, 49, 49), 1);
        noWay(x, 0, 1);
        Probe y = s.told("law 0 50 a b .;meet 0 1 50 50;loan 0 1 a a");
        noWay(y, 0, 1);
        s.due(y.meet(0, 1, 49, 50), 1);
        way(y, 0, 1, 49, 1);
        // The second step too: the form has come to tongue 1 before its law's date.
        Probe z = s.told("law 1 50 a b .;meet 0 1 40 40;meet 1 2 50 50;loan 0 1 a b");
        way(z, 0, 2, 40, 1, 50, 2);
    }

    private void severalAtOneDate() {
        s.on(HERE, "Then it can be borrowed, once or several times: each time from the language in which it is into "
            + "another one to which there is a contact at this date, without a change of the form.");
        Probe x = s.told("meet 0 1 50 50;meet 1 2 50 50;meet 2 3 50 50;loan 0 1 a a");
        way(x, 0, 1, 50, 1);
        way(x, 0, 2, 50, 1, 50, 2);
        way(x, 0, 3, 50, 1, 50, 2, 50, 3);
        way(x, 1, 3, 50, 2, 50, 3);
        noWay(x, 1, 0);
        noWay(x, 3, 0);
        s.due(x.meet(1, 2, 49, 49), 3);
        noWay(x, 0, 2);
        s.due(x.meet(1, 2, 51, 51), 3);
        way(x, 0, 2, 50, 1, 51, 2);
        noWay(x, 0, 3);
        // The limits of a contact belong to it.
        s.due(x.meet(2, 3, 20, 51), 3);
        way(x, 0, 3, 50, 1, 51, 2, 51, 3);
        s.due(x.meet(2, 3, 20, 50), 3);
        noWay(x, 0, 3);
    }

    private void changesOfTheNewTongue() {
        s.on(HERE, "(The sound changes of this date of a language into which it is borrowed are not applied.)");
        Probe x = s.told("law 1 50 a b .;meet 0 1 50 50;loan 0 1 a a");
        way(x, 0, 1, 50, 1);
        s.due(x.meet(0, 1, 49, 49), 1);
        noWay(x, 0, 1);
        Probe y = s.told("law 1 50 a b .;meet 0 1 49 50;loan 0 1 a b");
        way(y, 0, 1, 49, 1);
        s.due(y.meet(0, 1, 50, 50), 1);
        noWay(y, 0, 1);
        // Nor those of a tongue which it only passes, or to which it comes back, at this date.
        Probe z = s.told("law 1 50 a b .;law 2 50 a b .;meet 0 1 50 50;meet 1 2 50 50;loan 0 1 a a");
        way(z, 0, 2, 50, 1, 50, 2);
        s.due(z.law(2, 51, 0, 1, 0, 0), 2);
        noWay(z, 0, 2);
    }

    private void steps() {
        s.on(HERE, "A step is given by its date and the language into which the form is borrowed.");
        Probe x = s.told("meet 0 1 0 0;meet 1 3 99 99;loan 0 1 a a");
        s.due(x.road(0, 0, 0, 3, 0), 1);
        s.due(x.road(0, 0, 0, 3, 1), 4 * 99 + 3);
        s.due(x.meet(3, 0, 0, 0), 3);
        s.due(x.road(0, 3, 0, 0, 0), 0);
    }

    private void threeSteps() {
        s.on(HERE, "A way has at most 3 steps, and after date 99 the form has to be in a given language and equal to a "
            + "given form.");
        // From tongue 0 by 1 and 2 to 3 there are three steps, on to 0 again four.
        Probe x = s.told("law 0 1 a z .;meet 0 1 0 0;meet 1 2 10 10;meet 2 3 20 20;meet 3 0 30 30;loan 0 1 a a");
        way(x, 0, 3, 0, 1, 10, 2, 20, 3);
        noWay(x, 0, 0);
        way(x, 1, 0, 10, 2, 20, 3, 30, 0);
        way(x, 2, 0, 20, 3, 30, 0);
        way(x, 3, 0, 30, 0);
        way(x, 1, 1);
        // The form has to be the end after the law of date 99 too, in the tongue that is asked for.
        s.due(x.law(3, 99, 0, 25, 0, 0), 1);
        noWay(x, 0, 3);
        s.due(x.meet(2, 3, 20, 98), 4);
        noWay(x, 0, 3);
        s.due(x.meet(2, 3, 20, 99), 4);
        way(x, 0, 3, 0, 1, 10, 2, 99, 3);
        noWay(x, 3, 3);
        Probe y = s.told("loan 0 1 aa a;meet 0 1 0 99");
        noWay(y, 0, 1);
        noWay(y, 0, 0);
        s.due(y.law(1, 99, 0, Sentences.NONE, 1, 0), 0);
        way(y, 0, 1, 0, 1);
        noWay(y, 0, 0);
        Probe z = s.told("loan 0 1 a -;meet 0 1 0 99;law 1 99 a - .");
        way(z, 0, 1, 0, 1);
        way(z, 1, 1);
    }

    private void visits() {
        s.on(HERE, "A language can be visited several times.");
        Probe x = s.told("law 0 10 a b .;meet 0 1 2 50;meet 1 0 4 50;loan 0 1 a a");
        way(x, 0, 0, 2, 1, 10, 0);
        s.due(x.law(1, 30, 0, 1, 0, 0), 1);
        way(x, 0, 0, 2, 1, 10, 0);
        way(x, 0, 1, 2, 1, 10, 0, 30, 1);
        s.due(x.law(0, 20, 0, 1, 0, 0), 1);
        way(x, 0, 1, 2, 1, 20, 0, 30, 1);
        s.due(x.law(1, 15, 0, 1, 0, 0), 1);
        noWay(x, 0, 1);
        noWay(x, 0, 0);
    }

    private void fewestAndFirst() {
        s.on(HERE, "The way that is sought is one with the fewest steps; of these the one whose sequence of steps is "
            + "lexicographically first, where steps are compared by their dates and then by their languages.");
        // No step at all, though steps would also do.
        Probe x = s.told("meet 0 1 0 99;meet 1 0 0 99;loan 0 1 a a");
        way(x, 0, 0);
        // One step at the last date, and not two early ones.
        Probe y = s.told("meet 0 3 99 99;meet 0 1 0 99;meet 1 3 0 99;loan 0 3 a a");
        way(y, 0, 3, 99, 3);
        s.due(y.part(0, 3), 2);
        way(y, 0, 3, 0, 1, 0, 3);
        // At the same date the step into the lower tongue, though the second one comes later by it.
        Probe z = s.told("meet 0 1 5 9;meet 0 2 5 9;meet 1 3 8 9;meet 2 3 6 9;loan 0 3 a a");
        way(z, 0, 3, 5, 1, 8, 3);
        // The earlier date, though it is into the higher tongue, and even if the second step is later by it.
        s.due(z.meet(0, 2, 4, 9), 4);
        way(z, 0, 3, 4, 2, 6, 3);
        s.due(z.meet(2, 3, 9, 9), 4);
        way(z, 0, 3, 4, 2, 9, 3);
        // The first step as early as can be, then the second, then the third.
        Probe w = s.told("law 1 30 a b .;meet 0 1 10 40;meet 1 2 20 50;meet 2 3 25 60;loan 0 1 a a;law 3 55 a c .");
        way(w, 0, 3, 10, 1, 20, 2, 55, 3);
        s.due(w.law(2, 45, 0, 1, 0, 0), 1);
        way(w, 0, 3, 30, 1, 45, 2, 55, 3);
        s.due(w.meet(2, 3, 25, 54), 3);
        noWay(w, 0, 3);
    }
}
