/** What the tests share: it prints every answer that is not the one that is due, and counts them. */
final class Check {
    private int wrong = 0;
    private int seen = 0;

    void due(String call, long got, long want) {
        seen++;
        if (got == want) return;
        wrong++;
        if (wrong <= 40) System.out.println(call + " answered " + got + ", due is " + want);
    }

    void holds(String what, boolean held) {
        due(what, held ? 1 : 0, 1);
    }

    /** Ends the program, with exit code 1 if an answer was wrong or none was looked at. */
    void end() {
        System.out.println(seen + " answers seen, " + wrong + " wrong");
        if (wrong != 0 || seen == 0) System.exit(1);
    }

    static void type(LoanLayers x, String text) {
        for (int i = 0; i < text.length(); i++) x.type(text.charAt(i));
    }

    /** A new object to which a text has been told. */
    LoanLayers told(String text, int clauses) {
        LoanLayers x = new LoanLayers();
        type(x, text);
        due("tell() of " + text, x.tell(), clauses);
        return x;
    }
}
