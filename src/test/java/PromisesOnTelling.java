/** Promises 1 to 5: a new object, type, erase, fault and tell. */
final class PromisesOnTelling {
    private final Sentences s;
    private final Worlds worlds;

    PromisesOnTelling(Sentences s) {
        this.s = s;
        worlds = new Worlds(s);
    }

    void all() {
        newObject();
        type();
        erase();
        fault();
        tell();
    }

    private void newObject() {
        s.on("Promise 1", "Creates an object without sound changes, contacts and loans, with an empty text and without "
            + "saved states.");
        Probe x = s.fresh();
        for (int what = 0; what <= 12; what++) s.due(x.count(what), 0);
        s.due(x.told(0, 0), Sentences.UNKNOWN);
        s.due(x.loan(0, 0), Sentences.UNKNOWN);
        for (int pair = 0; pair < 16; pair++) s.due(x.meeting(pair / 4, pair % 4, 0), Sentences.UNKNOWN);
        s.due(x.fault(), 0);
        s.due(x.erase(), 0);
        s.due(x.undo(), Sentences.NOT);
        s.due(x.back(0), Sentences.NOT);
        s.due(x.back(1), Sentences.NOT);
        // Objects share nothing.
        Probe y = worlds.rich();
        s.due(x.count(0), 0);
        s.due(x.count(8), 0);
        s.due(x.back(0), Sentences.NOT);
        s.due(y.back(0), 2);
    }

    private void type() {
        s.on("Promise 2", "Appends a byte to the text.");
        Probe x = s.fresh();
        for (char letter : "all;al".toCharArray()) x.type(letter);
        s.due(x.fault(), 4);
        s.due(x.type('l'), 7);
        s.due(x.fault(), Sentences.NONE);
        s.on("Promise 2", "`letter`: the byte, 0 to 255");
        Probe low = s.fresh();
        for (int letter = 0; letter < 128; letter++) s.due(low.type(letter), letter + 1);
        Probe high = s.fresh();
        for (int letter = 128; letter < 256; letter++) s.due(high.type(letter), letter - 127);
        s.on("Promise 2", "Returns the length of the text afterwards");
        Probe y = s.fresh();
        for (int i = 1; i <= 200; i++) s.due(y.type(i % 2 == 0 ? 0 : 255), i);
        s.on("Promise 2", "OUTSIDE if letter is out of range");
        for (int no : new int[] {-1, 256, Sentences.LEAST, Sentences.GREATEST, -256, 97 + 256}) {
            s.refused(worlds::rich, p -> p.type(no), Sentences.OUTSIDE);
            s.refused(worlds::empty, p -> p.type(no), Sentences.OUTSIDE);
            s.refused(worlds::fullOfText, p -> p.type(no), Sentences.OUTSIDE);
        }
        s.on("Promise 2", "FULL if the text has 200 bytes.");
        for (int letter : new int[] {0, ' ', 'a', 255}) {
            s.refused(worlds::fullOfText, p -> p.type(letter), Sentences.FULL);
        }
        Probe z = s.fresh().types("x".repeat(199));
        s.due(z.type('x'), 200);
        s.due(z.type('x'), Sentences.FULL);
        s.due(z.erase(), 200);
        s.due(z.type('x'), 1);
    }

    private void erase() {
        s.on("Promise 3", "Empties the text.");
        Probe x = worlds.rich().types(";x");
        s.due(x.erase(), 46);
        s.due(x.count(8), 0);
        s.due(x.fault(), 0);
        s.due(x.tell(), Sentences.NOT);
        s.due(x.type('a'), 1);
        s.due(x.types("ll").tell(), 1);
        // Nothing else is emptied, and nothing of the erased text comes back.
        Probe y = worlds.rich();
        s.due(y.erase(), 44);
        s.due(y.count(0), 3);
        s.due(y.count(7), 4);
        s.due(y.types("loan 0 1 ab abcd").erase(), 16);
        s.due(y.types("loan 0 1 ab ab").tell(), 1);
        s.due(y.loan(3, 3), 2);
        for (String text : new String[] {"all;all;all", "law 3 10 a b >c", "law33 a-.", "meet 0 1 20 30", "loan0 1ab cd"}) {
            for (int length = 0; length <= text.length(); length++) {
                String left = text.substring(0, length);
                int due = s.fresh().types(left).fault();
                Probe again = s.fresh().types(text);
                s.due(again.erase(), text.length());
                s.due(again.types(left).fault(), due);
            }
        }
        s.on("Promise 3", "Returns the length that it had.");
        Probe z = s.fresh();
        s.due(z.erase(), 0);
        z.type(0);
        s.due(z.erase(), 1);
        s.due(z.types(" ".repeat(200)).erase(), 200);
        s.due(z.erase(), 0);
    }

    private void fault() {
        s.on("Promise 4", "Returns the fault of the text.");
        Probe x = worlds.faulty();
        s.due(x.fault(), 51);
        s.due(x.fault(), 51);
        s.due(x.count(8), 52);
        s.due(x.count(0), 3);
        s.due(x.count(7), 4);
        s.due(x.meeting(0, 1, 1), 99);
        s.on("Promise 4", "Returns the position, 0 if the text is empty");
        s.due(s.fresh().fault(), 0);
        s.due(worlds.fullOfLaws().fault(), 4);
        s.due(s.fresh().types(" ".repeat(199) + ";").fault(), 199);
        s.due(s.fresh().types(" ".repeat(200)).fault(), 200);
        Probe y = worlds.rich();
        y.erase();
        s.due(y.fault(), 0);
        s.on("Promise 4", "NONE if there is no fault.");
        Probe z = worlds.rich();
        s.due(z.fault(), Sentences.NONE);
        s.due(z.count(8), 44);
        s.due(z.count(0), 3);
        s.due(z.count(1), 3);
        s.due(z.count(2), 3);
        s.due(z.count(7), 4);
        s.due(z.fault(), Sentences.NONE);
        s.due(worlds.fullOfText().fault(), Sentences.NONE);
    }

    private void tell() {
        s.on("Promise 5", "Executes the clauses of the text and empties it.");
        Probe x = worlds.rich();
        s.due(x.tell(), 4);
        s.due(x.count(8), 0);
        int[] due = {1, 1, 0};
        for (int what = 0; what <= 2; what++) s.due(x.count(what), due[what]);
        int[] law = {2, 9, 2, Sentences.NONE, 0, Sentences.NONE};
        for (int what = 0; what <= 5; what++) s.due(x.told(0, what), law[what]);
        s.due(x.meeting(0, 1, 0), 2);
        s.due(x.tell(), Sentences.NOT);
        s.on("Promise 5", "Nothing can be undone then; saved states stay.");
        Probe y = worlds.rich();
        s.due(y.keep(1), 3);
        s.due(y.count(7), 4);
        s.due(y.tell(), 4);
        s.due(y.count(7), 0);
        s.due(y.undo(), Sentences.NOT);
        s.due(y.back(0), 2);
        s.due(y.count(2), 2);
        s.due(y.back(1), 3);
        s.due(y.count(2), 3);
        s.on("Promise 5", "Returns the number of clauses");
        for (int number : new int[] {1, 2, 23, 24}) s.due(s.fresh().types("all" + ";all".repeat(number - 1)).tell(), number);
        s.due(s.fresh().types(SentencesOnText.laws(16)).tell(), 16);
        s.on("Promise 5", "NOT if the text has a fault.");
        s.refused(worlds::faulty, Probe::tell, Sentences.NOT);
        s.refused(worlds::fullOfLaws, Probe::tell, Sentences.NOT);
        s.refused(worlds::empty, Probe::tell, Sentences.NOT);
        s.refused(() -> worlds.rich().types(";"), Probe::tell, Sentences.NOT);
        s.refused(() -> worlds.settled().types(";all".repeat(24)), Probe::tell, Sentences.NOT);
        s.refused(() -> worlds.settled().types("x"), Probe::tell, Sentences.NOT);
    }
}
