/** Promises 2 to 5: type, erase, fault and tell. */
public final class TextTest {
    private static final Check check = new Check();

    public static void main(String[] args) {
        type();
        erase();
        clauses();
        tokens();
        numbers();
        lawFaults();
        meetFaults();
        loanFaults();
        then();
        manyClauses();
        tell();
        tellAndUndo();
        check.end();
    }

    private static void type() {
        LoanLayers x = new LoanLayers();
        check.due("type(-1)", x.type(-1), -3);
        check.due("type(256)", x.type(256), -3);
        check.due("type(MIN)", x.type(Integer.MIN_VALUE), -3);
        for (int i = 1; i <= 200; i++) check.due("type", x.type(i % 2 == 0 ? 0 : 255), i);
        check.due("type on a full text", x.type(97), -5);
        check.due("type(256) on a full text", x.type(256), -3);
        check.due("type(-1) on a full text", x.type(-1), -3);
        check.due("count(8)", x.count(8), 200);
        check.due("fault()", x.fault(), 0);
    }

    private static void erase() {
        LoanLayers x = new LoanLayers();
        check.due("erase()", x.erase(), 0);
        Check.type(x, "law 1 2");
        check.due("erase()", x.erase(), 7);
        check.due("count(8)", x.count(8), 0);
        check.due("erase()", x.erase(), 0);
        check.due("type(97)", x.type(97), 1);
        x.erase();
        Check.type(x, "allx 12");
        x.erase();
        Check.type(x, "all");
        check.due("fault() of all, typed over allx", x.fault(), -1);
        check.due("tell()", x.tell(), 1);
        Check.type(x, "al");
        check.due("fault() of al, typed over all", x.fault(), 0);
        x.erase();
        Check.type(x, "meet 0 1 2 34");
        x.erase();
        Check.type(x, "meet 0 1 2 3");
        check.due("tell()", x.tell(), 1);
        check.due("meeting(0, 1, 1)", x.meeting(0, 1, 1), 3);
    }

    private static void fault(String text, int due) {
        faultAfter("", text, due);
    }

    /** The fault of a text after another one has been told; the text must stay as it was. */
    private static void faultAfter(String first, String text, int due) {
        LoanLayers x = new LoanLayers();
        Check.type(x, first);
        if (!first.isEmpty()) check.holds(first + " is told", x.tell() > 0);
        int laws = x.count(0);
        int loans = x.count(2);
        int meetings = x.count(1);
        Check.type(x, text);
        check.due("fault() of " + text, x.fault(), due);
        check.due("fault() once more of " + text, x.fault(), due);
        check.due("count(8) of " + text, x.count(8), text.length());
        check.holds("fault() changes nothing", laws == x.count(0) && meetings == x.count(1) && loans == x.count(2));
        if (due == -1) return;
        check.due("tell() of " + text, x.tell(), -4);
        check.due("count(8) after tell() of " + text, x.count(8), text.length());
        check.holds("tell() changes nothing", laws == x.count(0) && meetings == x.count(1) && loans == x.count(2));
    }

    private static void clauses() {
        fault("", 0);
        fault(" ", 1);
        fault("   ", 3);
        fault("all", -1);
        fault(" all ", -1);
        fault("all;", 4);
        fault("all; ", 5);
        fault(";", 0);
        fault(" ;all", 1);
        fault("all;;all", 4);
        fault("all all", 4);
        fault("all 1", 4);
        fault("all1", 3);
        fault("al", 0);
        fault("allx", 0);
        fault("ALL", 0);
        fault("All", 0);
        fault("lawn 0 1 a b .", 0);
        fault("xall", 0);
        fault("7", 0);
        fault("all;law", 7);
        fault("all;lax", 4);
        fault("all\t;all", 3);
        fault("all" + (char) 0, 3);
        fault("all" + (char) 255, 3);
        fault("all" + (char) 160, 3);
    }

    private static void tokens() {
        fault("law0 1a b.", -1);
        fault("law 0 1 a b.", -1);
        fault("law0 99a->b", -1);
        fault("law  3  09  a  b  <  c  ", -1);
        fault("law01a b.", 5);
        fault("law 0 1 ab .", 8);
        fault("law 0 1 a bc .", 10);
        fault("law 0 1 a b > cd", 14);
        fault("meet0 1 2 3", -1);
        fault("meet 01 23", 8);
        fault("loan0 1a b", -1);
        fault("loan0 1ab-", -1);
        fault("loan 0 1 ab cd ef", 15);
        fault("loan 0 1 a B", 11);
        fault("law 0 1 a b .;all;meet 0 1 5 9;loan 1 2 x y", -1);
    }

    private static void numbers() {
        fault("meet 00 01 00 09", -1);
        fault("meet 000 1 0 9", 5);
        fault("meet 0 1 0 099", 11);
        fault("meet 0 1 100 200", 9);
        fault("meet 4 1 0 9", 5);
        fault("meet 0 4 0 9", 7);
        fault("meet 99999999999 1 0 9", 5);
        fault("meet -1 1 0 9", 5);
        fault("law 0 00 a b .", 6);
        fault("law 0 0 a b .", 6);
        fault("law 0 100 a b .", 6);
        fault("law 0 001 a b .", 6);
        fault("law 4 1 a b .", 4);
        fault("law 03 99 a b .", -1);
    }

    private static void lawFaults() {
        fault("law", 3);
        fault("law ", 4);
        fault("law 0", 5);
        fault("law 0 1", 7);
        fault("law 0 1 a", 9);
        fault("law 0 1 a b", 11);
        fault("law 0 1 a b >", 13);
        fault("law 0 1 a b > ", 14);
        fault("law a", 4);
        fault("law 0 a", 6);
        fault("law 0 1 2", 8);
        fault("law 0 1 -", 8);
        fault("law 0 1 a a .", 10);
        fault("law 0 1 a 5 .", 10);
        fault("law 0 1 a . .", 10);
        fault("law 0 1 a - .", -1);
        fault("law 0 1 a b ,", 12);
        fault("law 0 1 a b a", 12);
        fault("law 0 1 a b . a", 14);
        fault("law 0 1 a b > .", 14);
        fault("law 0 1 a b < 1", 14);
        fault("law 0 1 a b >>a", 13);
        fault("law 0 1 a b <a", -1);
        fault("law 0 1 a b >a;", 15);
        fault("law 0 1 a b ;", 12);
    }

    private static void meetFaults() {
        fault("meet", 4);
        fault("meet 0", 6);
        fault("meet 0 1", 8);
        fault("meet 0 1;", 8);
        fault("meet 0 1 5", 10);
        fault("meet 0 0 5 6", 7);
        fault("meet 3 03 5 6", 7);
        fault("meet 0 1 5 4", 11);
        fault("meet 0 1 5 5", -1);
        fault("meet 0 1 0 99", -1);
        fault("meet 0 1 a 4", 9);
        fault("meet 0;", 6);
        faultAfter("meet 0 1 2 3", "meet 0 1 5 6", -1);
    }

    private static void loanFaults() {
        fault("loan", 4);
        fault("loan 0 1", 8);
        fault("loan 0 1 a", 10);
        fault("loan 2 2 a b", 7);
        fault("loan 0 1 abcdefgh abcdefghij", -1);
        fault("loan 0 1 abcdefghi a", 9);
        fault("loan 0 1 a abcdefghijk", 11);
        fault("loan 0 1 - a", 9);
        fault("loan 0 1 a -", -1);
        fault("loan 0 1 a --", 12);
        fault("loan 0 1 a 1", 11);
        fault("loan 0 1 1 a", 9);
    }

    private static String laws(int tongue, int from, int number) {
        StringBuilder b = new StringBuilder();
        for (int i = 0; i < number; i++) b.append(i == 0 ? "law" : ";law").append(tongue).append(' ').append(from + i).append("a b.");
        return b.toString();
    }

    private static String loans(int number) {
        StringBuilder b = new StringBuilder();
        for (int i = 0; i < number; i++) b.append(i == 0 ? "loan0 1a b" : ";loan0 1a b");
        return b.toString();
    }

    private static void then() {
        faultAfter("law 1 20 a b .", "law 1 20 c d .", 6);
        faultAfter("law 1 20 a b .", "law 2 20 c d .", -1);
        faultAfter("law 1 20 a b .", "law 1 21 c d .", -1);
        faultAfter("law 1 20 a b .", "all;law 1 20 c d .", -1);
        fault("law 1 20 a b .;law 1 20 c d .", 21);
        fault("law 1 20 a b .;all;law 1 20 c d .", -1);
        faultAfter(laws(0, 1, 15), "law 1 20 a b .", -1);
        faultAfter(laws(0, 1, 15), "law 1 20 a b .;law 1 21 a b .", 15);
        faultAfter(laws(0, 1, 16), "law 0 1 a b .", 0);
        faultAfter(laws(0, 1, 16), "  law", 2);
        faultAfter(laws(0, 1, 16), "all;law 0 1 a b .", -1);
        faultAfter(laws(0, 1, 16), "loan 0 1 a b", -1);
        faultAfter(loans(11), "loan 0 1 a b", -1);
        faultAfter(loans(11), "loan 0 1 a b;loan 0 1 a b", 13);
        faultAfter(loans(12), "loan 0 1 a b", 0);
        faultAfter(loans(12), "all; loan 0 1 a b", -1);
        faultAfter(loans(12), "law 0 1 a b .", -1);
    }

    private static void manyClauses() {
        fault("all;".repeat(23) + "all", -1);
        fault("all;".repeat(23) + "all ", -1);
        fault("all;".repeat(24), 95);
        fault("all;".repeat(24) + "all", 95);
        fault("all;".repeat(23) + "all x", 96);
        LoanLayers x = new LoanLayers();
        Check.type(x, "all;".repeat(23) + "all");
        check.due("tell() of 24 clauses", x.tell(), 24);
    }

    private static void tell() {
        LoanLayers x = check.told("law 2 30 c - <d; law 1 30 a b >z ;law 0 31 e f .;meet 2 3 4 56;loan 3 0 xyz -", 5);
        check.due("count(8)", x.count(8), 0);
        check.due("count(0)", x.count(0), 3);
        int[][] laws = {{1, 30, 0, 1, 1, 25}, {2, 30, 2, -1, 2, 3}, {0, 31, 4, 5, 0, -1}};
        for (int i = 0; i < laws.length; i++) {
            for (int w = 0; w < 6; w++) check.due("told(" + i + ", " + w + ")", x.told(i, w), laws[i][w]);
        }
        check.due("meeting(2, 3, 0)", x.meeting(2, 3, 0), 4);
        check.due("meeting(2, 3, 1)", x.meeting(2, 3, 1), 56);
        check.due("loan(0, 0)", x.loan(0, 0), 3);
        check.due("loan(0, 1)", x.loan(0, 1), 0);
        check.due("loan(0, 2)", x.loan(0, 2), 3);
        check.due("loan(0, 3)", x.loan(0, 3), 0);
        for (int i = 0; i < 3; i++) check.due("sound(0, 0, " + i + ")", x.sound(0, 0, i), 23 + i);
        Check.type(x, "meet 2 3 7 8;loan 1 2 a abcdefghij");
        check.due("tell()", x.tell(), 2);
        check.due("count(1)", x.count(1), 1);
        check.due("meeting(2, 3, 0)", x.meeting(2, 3, 0), 7);
        check.due("count(2)", x.count(2), 2);
        check.due("loan(1, 3)", x.loan(1, 3), 10);
        check.due("sound(1, 1, 9)", x.sound(1, 1, 9), 9);
        Check.type(x, "loan 0 1 a b;all");
        check.due("tell()", x.tell(), 2);
        for (int w = 0; w <= 2; w++) check.due("count(" + w + ") after all", x.count(w), 0);
        check.due("meeting(2, 3, 0) after all", x.meeting(2, 3, 0), -2);
        check.due("tell() of an empty text", x.tell(), -4);
    }

    private static void tellAndUndo() {
        LoanLayers x = new LoanLayers();
        x.law(0, 5, 1, 2, 0, 0);
        x.keep(1);
        x.law(0, 6, 1, 2, 0, 0);
        Check.type(x, "all;al");
        check.due("tell()", x.tell(), -4);
        check.due("count(7) after a text with a fault", x.count(7), 2);
        x.erase();
        Check.type(x, "all");
        check.due("tell()", x.tell(), 1);
        check.due("count(7)", x.count(7), 0);
        check.due("undo()", x.undo(), -4);
        check.due("back(1)", x.back(1), 1);
        check.due("told(0, 1)", x.told(0, 1), 5);
    }
}
