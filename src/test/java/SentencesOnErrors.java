/** The document's Description: the error codes, their order, and that a refused call changes nothing. */
final class SentencesOnErrors {
    private static final String HERE = "Description";
    private final Sentences s;
    private final Worlds worlds;

    SentencesOnErrors(Sentences s) {
        this.s = s;
        worlds = new Worlds(s);
    }

    void all() {
        unknown();
        outside();
        not();
        full();
        namedFirst();
        changesNothing();
        constants();
        s.leaves(HERE, "The constructor and the methods follow, a promise each: the signature, then what it does.");
        fiveHundredAndTwelve();
    }

    private void unknown() {
        s.on(HERE, "UNKNOWN: there is no such language, sound change, loan, contact, window or sound.");
        Probe x = worlds.rich();
        s.due(x.law(4, 5, 0, 1, 0, 0), Sentences.UNKNOWN);
        s.due(x.repeal(3), Sentences.UNKNOWN);
        s.due(x.drop(3), Sentences.UNKNOWN);
        s.due(x.part(1, 0), Sentences.UNKNOWN);
        s.due(x.window(0, 2, 0), Sentences.UNKNOWN);
        s.due(x.sound(0, 0, 1), Sentences.UNKNOWN);
        s.due(x.taken(0, 0, 1), Sentences.UNKNOWN);
    }

    private void outside() {
        s.on(HERE, "OUTSIDE: another argument is out of range.");
        Probe x = worlds.rich();
        s.due(x.type(256), Sentences.OUTSIDE);
        s.due(x.law(0, 100, 0, 1, 0, 0), Sentences.OUTSIDE);
        s.due(x.meet(0, 1, 5, 4), Sentences.OUTSIDE);
        s.due(x.lend(0, 0, 1, 100), Sentences.OUTSIDE);
        s.due(x.keep(2), Sentences.OUTSIDE);
        s.due(x.back(2), Sentences.OUTSIDE);
        s.due(x.told(0, 6), Sentences.OUTSIDE);
        s.due(x.count(13), Sentences.OUTSIDE);
    }

    private void not() {
        s.on(HERE, "NOT: the call is not possible now, as the method says.");
        Probe x = worlds.empty();
        s.due(x.tell(), Sentences.NOT);
        s.due(x.undo(), Sentences.NOT);
        s.due(x.back(0), Sentences.NOT);
        s.due(x.law(0, 5, 1, 1, 0, 0), Sentences.NOT);
    }

    private void full() {
        s.on(HERE, "FULL: there is no room.");
        s.due(worlds.fullOfText().type(0), Sentences.FULL);
        s.due(worlds.fullOfLaws().law(0, 50, 0, 1, 0, 0), Sentences.FULL);
        s.due(worlds.fullOfLoans().lend(0, 0, 1, 0), Sentences.FULL);
    }

    private void namedFirst() {
        s.on(HERE, "If several errors apply, the one that the method names first is returned, and NONE is returned "
            + "only if no error applies.");
        Probe text = worlds.fullOfText();
        s.due(text.type(256), Sentences.OUTSIDE);
        s.due(text.type(-1), Sentences.OUTSIDE);
        orderOfLaw();
        orderOfTheOtherActs();
        orderOfQuestions();
    }

    private void orderOfLaw() {
        Probe x = worlds.fullOfLaws();
        s.due(x.law(4, 0, 0, 0, 0, 0), Sentences.UNKNOWN);
        s.due(x.law(4, 5, 1, 1, 0, 0), Sentences.UNKNOWN);
        s.due(x.law(-1, 50, 0, 1, 0, 0), Sentences.UNKNOWN);
        s.due(x.law(0, 0, 1, 1, 0, 0), Sentences.OUTSIDE);
        s.due(x.law(0, 100, 0, 1, 0, 0), Sentences.OUTSIDE);
        s.due(x.law(0, 50, 26, 26, 0, 0), Sentences.OUTSIDE);
        s.due(x.law(0, 50, -1, -1, 0, 0), Sentences.OUTSIDE);
        s.due(x.law(0, 1, 0, 26, 0, 0), Sentences.OUTSIDE);
        s.due(x.law(0, 1, 1, 1, 3, 0), Sentences.OUTSIDE);
        s.due(x.law(0, 1, 1, 1, 1, 26), Sentences.OUTSIDE);
        s.due(x.law(0, 1, 0, 1, 2, -1), Sentences.OUTSIDE);
        s.due(x.law(0, 50, 1, 1, 0, 0), Sentences.NOT);
        s.due(x.law(0, 1, 0, 1, 0, 0), Sentences.NOT);
        s.due(x.law(0, 1, 1, 1, 0, 0), Sentences.NOT);
        s.due(x.law(0, 50, 0, 1, 0, 0), Sentences.FULL);
    }

    private void orderOfTheOtherActs() {
        Probe x = worlds.fullOfLoans();
        s.due(x.lend(12, 0, 1, 100), Sentences.UNKNOWN);
        s.due(x.lend(12, 0, 1, 0), Sentences.UNKNOWN);
        s.due(x.lend(0, 4, 1, -1), Sentences.UNKNOWN);
        s.due(x.lend(0, 1, 1, 100), Sentences.UNKNOWN);
        s.due(x.lend(0, 1, 1, 0), Sentences.UNKNOWN);
        s.due(x.lend(0, 0, 1, 100), Sentences.OUTSIDE);
        s.due(x.lend(0, 0, 1, -1), Sentences.OUTSIDE);
        s.due(x.lend(0, 0, 1, 0), Sentences.FULL);
        s.due(x.meet(4, 0, 5, 4), Sentences.UNKNOWN);
        s.due(x.meet(1, 1, 100, 0), Sentences.UNKNOWN);
        s.due(x.meet(0, 1, 5, 4), Sentences.OUTSIDE);
        s.due(x.back(2), Sentences.OUTSIDE);
        s.due(x.back(-1), Sentences.OUTSIDE);
        s.due(x.back(1), Sentences.NOT);
    }

    private void orderOfQuestions() {
        Probe x = worlds.rich();
        s.due(x.told(3, 6), Sentences.UNKNOWN);
        s.due(x.told(0, 6), Sentences.OUTSIDE);
        s.due(x.told(1, 5), Sentences.NONE);
        s.due(x.meeting(1, 0, 2), Sentences.UNKNOWN);
        s.due(x.meeting(0, 0, 2), Sentences.UNKNOWN);
        s.due(x.meeting(0, 1, 2), Sentences.OUTSIDE);
        s.due(x.loan(3, 10), Sentences.UNKNOWN);
        s.due(x.loan(1, 10), Sentences.OUTSIDE);
        s.due(x.loan(1, 6), Sentences.NONE);
        s.due(x.sound(3, 2, 0), Sentences.UNKNOWN);
        s.due(x.sound(0, 2, 1), Sentences.OUTSIDE);
        s.due(x.sound(0, 1, 1), Sentences.UNKNOWN);
        s.due(x.window(0, 2, 2), Sentences.UNKNOWN);
        s.due(x.window(3, 0, 2), Sentences.UNKNOWN);
        s.due(x.window(0, 1, 2), Sentences.OUTSIDE);
        s.due(x.taken(3, 100, 5), Sentences.UNKNOWN);
        s.due(x.taken(0, 100, 5), Sentences.OUTSIDE);
        s.due(x.taken(0, 99, 5), Sentences.UNKNOWN);
        s.due(x.gone(3, 0, 100, 0, 5), Sentences.UNKNOWN);
        s.due(x.gone(0, 4, 100, 0, 5), Sentences.UNKNOWN);
        s.due(x.gone(0, 0, 100, 0, 5), Sentences.OUTSIDE);
        s.due(x.gone(0, 0, 0, 100, 5), Sentences.OUTSIDE);
        s.due(x.did(3, 0, 100), Sentences.UNKNOWN);
        s.due(x.did(0, 3, 100), Sentences.UNKNOWN);
        s.due(x.did(0, 1, 100), Sentences.UNKNOWN);
        s.due(x.did(0, 0, 100), Sentences.OUTSIDE);
        s.due(x.road(3, 0, 0, 0, -2), Sentences.UNKNOWN);
        s.due(x.road(0, 4, 0, 0, -2), Sentences.UNKNOWN);
        s.due(x.road(0, 1, 0, 0, -2), Sentences.OUTSIDE);
        s.due(x.road(0, 1, 0, 0, -1), Sentences.NONE);
    }

    private void changesNothing() {
        s.on(HERE, "A call that returns an error changes nothing.");
        s.refused(worlds::rich, x -> x.type(256), Sentences.OUTSIDE);
        s.refused(worlds::fullOfText, x -> x.type('a'), Sentences.FULL);
        s.refused(worlds::faulty, Probe::tell, Sentences.NOT);
        s.refused(worlds::rich, x -> x.law(4, 5, 0, 1, 0, 0), Sentences.UNKNOWN);
        s.refused(worlds::rich, x -> x.law(0, 5, 0, 1, 2, 26), Sentences.OUTSIDE);
        s.refused(worlds::rich, x -> x.law(0, 20, 0, 1, 0, 0), Sentences.NOT);
        s.refused(worlds::fullOfLaws, x -> x.law(0, 50, 0, 1, 0, 0), Sentences.FULL);
        s.refused(worlds::rich, x -> x.repeal(3), Sentences.UNKNOWN);
        s.refused(worlds::rich, x -> x.meet(2, 2, 0, 9), Sentences.UNKNOWN);
        s.refused(worlds::rich, x -> x.meet(0, 1, 9, 8), Sentences.OUTSIDE);
        s.refused(worlds::rich, x -> x.part(1, 0), Sentences.UNKNOWN);
        s.refused(worlds::rich, x -> x.lend(3, 0, 1, 0), Sentences.UNKNOWN);
        s.refused(worlds::rich, x -> x.lend(0, 0, 1, 100), Sentences.OUTSIDE);
        s.refused(worlds::fullOfLoans, x -> x.lend(0, 0, 1, 0), Sentences.FULL);
        s.refused(worlds::rich, x -> x.drop(3), Sentences.UNKNOWN);
        s.refused(worlds::settled, Probe::undo, Sentences.NOT);
        s.refused(worlds::rich, x -> x.keep(2), Sentences.OUTSIDE);
        s.refused(worlds::rich, x -> x.back(2), Sentences.OUTSIDE);
        s.refused(worlds::rich, x -> x.back(1), Sentences.NOT);
        refusedQuestions();
    }

    private void refusedQuestions() {
        s.refused(worlds::rich, x -> x.told(3, 0), Sentences.UNKNOWN);
        s.refused(worlds::rich, x -> x.told(0, 6), Sentences.OUTSIDE);
        s.refused(worlds::rich, x -> x.meeting(1, 0, 0), Sentences.UNKNOWN);
        s.refused(worlds::rich, x -> x.meeting(0, 1, 2), Sentences.OUTSIDE);
        s.refused(worlds::rich, x -> x.loan(3, 0), Sentences.UNKNOWN);
        s.refused(worlds::rich, x -> x.loan(0, 10), Sentences.OUTSIDE);
        s.refused(worlds::rich, x -> x.sound(0, 0, 1), Sentences.UNKNOWN);
        s.refused(worlds::rich, x -> x.sound(0, 2, 0), Sentences.OUTSIDE);
        s.refused(worlds::rich, x -> x.window(0, 2, 0), Sentences.UNKNOWN);
        s.refused(worlds::rich, x -> x.window(0, 0, 2), Sentences.OUTSIDE);
        s.refused(worlds::rich, x -> x.taken(0, 0, 1), Sentences.UNKNOWN);
        s.refused(worlds::rich, x -> x.taken(0, 100, 0), Sentences.OUTSIDE);
        s.refused(worlds::rich, x -> x.gone(0, 4, 0, 0, 0), Sentences.UNKNOWN);
        s.refused(worlds::rich, x -> x.gone(0, 0, 0, 100, 0), Sentences.OUTSIDE);
        s.refused(worlds::rich, x -> x.did(0, 1, 0), Sentences.UNKNOWN);
        s.refused(worlds::rich, x -> x.did(0, 0, 100), Sentences.OUTSIDE);
        s.refused(worlds::rich, x -> x.older(0, 3), Sentences.UNKNOWN);
        s.refused(worlds::rich, x -> x.road(0, 0, 3, 0, -1), Sentences.UNKNOWN);
        s.refused(worlds::rich, x -> x.road(0, 0, 0, 0, -2), Sentences.OUTSIDE);
        s.refused(worlds::rich, x -> x.count(13), Sentences.OUTSIDE);
    }

    private void constants() {
        s.on(HERE, "The constants: - `NONE = -1, UNKNOWN = -2, OUTSIDE = -3, NOT = -4, FULL = -5`: NONE: there is no "
            + "such thing. UNKNOWN, OUTSIDE, NOT, FULL: error codes.");
        s.due(LoanLayers.NONE, -1);
        s.due(LoanLayers.UNKNOWN, -2);
        s.due(LoanLayers.OUTSIDE, -3);
        s.due(LoanLayers.NOT, -4);
        s.due(LoanLayers.FULL, -5);
    }

    /** Each of the acts once more and once more, up to the 512th call. */
    private void fiveHundredAndTwelve() {
        s.on("What it is", "An object is used for at most 512 calls after it has been made; what later calls answer "
            + "is free.");
        Probe x = s.told("law 0 20 p b .;law 1 10 p b .;loan 0 1 p b");
        while (x.calls() + 12 <= Probe.MOST_CALLS) {
            s.due(x.law(2, 5, 0, 1, 0, 0), 0);
            s.due(x.repeal(0), 2);
            s.due(x.meet(0, 1, 0, 99), 1);
            s.due(x.lend(0, 0, 1, 15), 2);
            s.due(x.loan(0, 5), 2);
            s.due(x.loan(1, 6), 10);
            s.due(x.road(0, 0, 1, 1, 0), 41);
            s.due(x.drop(1), 1);
            s.due(x.part(0, 1), 0);
            s.due(x.type(97), 1);
            s.due(x.erase(), 1);
        }
        while (x.calls() < Probe.MOST_CALLS - 1) s.due(x.count(0), 2);
        s.due(x.count(7), 8);
    }
}
