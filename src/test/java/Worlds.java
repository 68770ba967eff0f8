/** Objects in which refused calls are tried: each call of a method makes the same one anew. */
final class Worlds {
    private final Sentences s;

    Worlds(Sentences s) {
        this.s = s;
    }

    /** Three laws, three meetings, three loans, four acts to undo, one saved state and a text without a fault. */
    Probe rich() {
        Probe x = s.told("law 0 20 p b .;law 1 10 p b .;meet 0 1 0 99;meet 2 3 5 9;loan 0 1 p b;loan 2 3 xy -");
        s.due(x.keep(0), 2);
        s.due(x.law(2, 30, 23, 2, 1, 24), 2);
        s.due(x.meet(1, 2, 4, 80), 3);
        s.due(x.lend(0, 0, 1, 15), 3);
        s.due(x.meet(2, 3, 6, 8), 3);
        return x.types("law 3 7 a b .;all;meet 0 1 2 3;law 2 9 c - .");
    }

    /** A text with a fault on top of what is rich. */
    Probe faulty() {
        return rich().types(";law 2 9");
    }

    /** As many laws as there can be, the eight last of them to be undone. */
    Probe fullOfLaws() {
        Probe x = s.told("loan 0 1 a a;meet 0 1 3 30");
        for (int i = 0; i < 16; i++) s.due(x.law(i % 4, 1 + i, 0, 1, 0, 0), i);
        s.due(x.keep(1), 16);
        return x.types("all;al");
    }

    /** As many loans as there can be, the eight last of them to be undone. */
    Probe fullOfLoans() {
        Probe x = s.told("loan 0 1 ab ab;law 0 9 a b .");
        for (int number = 2; number <= 12; number++) s.due(x.lend(0, number % 3, 3, 8 * number), number);
        s.due(x.keep(0), 1);
        return x.types("law 0 1 a b .");
    }

    /** A text of 200 bytes without a fault. */
    Probe fullOfText() {
        Probe x = s.told("law 0 9 a b .;loan 0 1 a b");
        s.due(x.meet(0, 1, 4, 9), 1);
        return x.types("law 1 9 a b ." + " ".repeat(187));
    }

    /** Things that are there, though nothing can be undone. */
    Probe settled() {
        Probe x = s.told("law 0 9 a b .;loan 0 1 a b;meet 0 1 2 3");
        s.due(x.keep(1), 1);
        return x.types("all");
    }

    /** A new object. */
    Probe empty() {
        return s.fresh();
    }
}
