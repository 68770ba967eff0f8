/** Promises 15 to 25: told, meeting, loan, sound, window, taken, gone, did, older, road and count. */
public final class FindingsTest {
    private static final Check check = new Check();

    public static void main(String[] args) {
        told();
        meeting();
        loanErrors();
        sound();
        applying();
        windows();
        windowLimits();
        manyWindows();
        taken();
        gone();
        did();
        layers();
        olderAcross();
        roadErrors();
        roadSteps();
        roadSameDate();
        roadFirst();
        roadReturns();
        count();
        check.end();
    }

    private static void told() {
        LoanLayers x = check.told("law 3 7 q - <r", 1);
        int[] due = {3, 7, 16, -1, 2, 17};
        for (int w = 0; w < 6; w++) check.due("told(0, " + w + ")", x.told(0, w), due[w]);
        check.due("told(0, -1)", x.told(0, -1), -3);
        check.due("told(0, 6)", x.told(0, 6), -3);
        check.due("told(1, 6)", x.told(1, 6), -2);
        check.due("told(-1, 0)", x.told(-1, 0), -2);
    }

    private static void meeting() {
        LoanLayers x = check.told("meet 3 0 11 22", 1);
        check.due("meeting(3, 0, 0)", x.meeting(3, 0, 0), 11);
        check.due("meeting(3, 0, 1)", x.meeting(3, 0, 1), 22);
        check.due("meeting(3, 0, 2)", x.meeting(3, 0, 2), -3);
        check.due("meeting(3, 0, -1)", x.meeting(3, 0, -1), -3);
        check.due("meeting(0, 3, 2)", x.meeting(0, 3, 2), -2);
        check.due("meeting(3, 3, 0)", x.meeting(3, 3, 0), -2);
        check.due("meeting(4, 0, 0)", x.meeting(4, 0, 0), -2);
        check.due("meeting(3, -1, 0)", x.meeting(3, -1, 0), -2);
        check.due("meeting(2, 4, 0)", x.meeting(2, 4, 0), -2);
    }

    private static void loanErrors() {
        LoanLayers x = check.told("loan 2 1 abc de", 1);
        check.due("loan(1, 10)", x.loan(1, 10), -2);
        check.due("loan(-1, 0)", x.loan(-1, 0), -2);
        check.due("loan(0, -1)", x.loan(0, -1), -3);
        check.due("loan(0, 10)", x.loan(0, 10), -3);
        int[] due = {2, 1, 3, 2, 0, 0, -1, -1, 0, 0};
        for (int w = 0; w < 10; w++) check.due("loan(0, " + w + ")", x.loan(0, w), due[w]);
    }

    private static void sound() {
        LoanLayers x = check.told("loan 2 1 abcdefgz zabcdefghi;loan 0 1 m -", 2);
        for (int i = 0; i < 8; i++) check.due("sound(0, 0, i)", x.sound(0, 0, i), i == 7 ? 25 : i);
        for (int i = 0; i < 10; i++) check.due("sound(0, 1, i)", x.sound(0, 1, i), i == 0 ? 25 : i - 1);
        check.due("sound(0, 0, 8)", x.sound(0, 0, 8), -2);
        check.due("sound(0, 1, 10)", x.sound(0, 1, 10), -2);
        check.due("sound(0, 0, -1)", x.sound(0, 0, -1), -2);
        check.due("sound(0, 1, MAX)", x.sound(0, 1, Integer.MAX_VALUE), -2);
        check.due("sound(0, 0, MIN)", x.sound(0, 0, Integer.MIN_VALUE), -2);
        check.due("sound(1, 1, 0)", x.sound(1, 1, 0), -2);
        check.due("sound(2, 0, 0)", x.sound(2, 0, 0), -2);
        check.due("sound(2, 5, 0)", x.sound(2, 5, 0), -2);
        check.due("sound(0, 2, 20)", x.sound(0, 2, 20), -3);
        check.due("sound(0, -1, 0)", x.sound(0, -1, 0), -3);
    }

    /** The word of loan 0, developed in tongue 0 through all dates. */
    private static void becomes(String laws, String word, String due) {
        LoanLayers x = check.told(laws + ";loan 0 1 " + word + " -", laws.split(";").length + 1);
        String name = word + " by " + laws;
        check.due("length of " + name, x.gone(0, 0, 0, 99, -1), due.length());
        for (int i = 0; i < due.length(); i++) check.due("sound " + i + " of " + name, x.gone(0, 0, 0, 99, i), due.charAt(i) - 'a');
        check.due("sound behind " + name, x.gone(0, 0, 0, 99, due.length()), -2);
    }

    private static void applying() {
        becomes("law 0 1 a b .", "aca", "bcb");
        becomes("law 0 1 a - .", "aaaaaaaa", "");
        becomes("law 0 1 a b >a", "aaaa", "bbba");
        becomes("law 0 1 a b <a", "aaaa", "abbb");
        becomes("law 0 1 a - >a", "aaaab", "ab");
        becomes("law 0 1 a - <a", "baaaa", "ba");
        becomes("law 0 1 a b >c", "acabac", "bcabbc");
        becomes("law 0 1 a b <c", "acaca", "acbcb");
        becomes("law 0 1 a b >z", "az", "bz");
        becomes("law 0 1 z - <a", "zaz", "za");
        becomes("law 0 2 b c .;law 0 1 a b .", "ab", "cc");
        becomes("law 0 1 b c .;law 0 2 a b .", "ab", "bc");
        becomes("law 0 1 c - .;law 0 2 a b >a", "aca", "ba");
        becomes("law 1 1 a b .;law 0 99 d e .", "ad", "ae");
    }

    private static void windows() {
        LoanLayers x = check.told("law 0 20 p b .;law 1 10 p b .;meet 0 1 0 99;loan 0 1 p b;loan 0 1 p p;loan 1 0 p b", 6);
        int[][] due = {{2, 2, 0, 99}, {1, 1, 10, 19}, {0, 0, -1, -1}};
        for (int i = 0; i < 3; i++) {
            for (int w = 4; w < 8; w++) check.due("loan(" + i + ", " + w + ")", x.loan(i, w), due[i][w - 4]);
        }
        check.due("window(0, 0, 0)", x.window(0, 0, 0), 0);
        check.due("window(0, 0, 1)", x.window(0, 0, 1), 9);
        check.due("window(0, 1, 0)", x.window(0, 1, 0), 20);
        check.due("window(0, 1, 1)", x.window(0, 1, 1), 99);
        check.due("window(0, 2, 0)", x.window(0, 2, 0), -2);
        check.due("window(0, 2, 2)", x.window(0, 2, 2), -2);
        check.due("window(0, -1, 0)", x.window(0, -1, 0), -2);
        check.due("window(0, 1, 2)", x.window(0, 1, 2), -3);
        check.due("window(0, 1, -1)", x.window(0, 1, -1), -3);
        check.due("window(2, 0, 0)", x.window(2, 0, 0), -2);
        check.due("window(3, 0, 0)", x.window(3, 0, 0), -2);
        check.due("window(-1, 0, 0)", x.window(-1, 0, 0), -2);
        for (int kind = 0; kind < 3; kind++) check.due("count(3 + kind)", x.count(3 + kind), 1);
    }

    private static void limits(LoanLayers x, int a, int b, int... due) {
        x.meet(0, 1, a, b);
        String name = " with " + a + " to " + b;
        check.due("windows" + name, x.loan(0, 5), due.length / 2);
        for (int i = 0; i < due.length; i++) check.due("window " + i / 2 + name, x.window(0, i / 2, i % 2), due[i]);
        check.due("no more windows" + name, x.window(0, due.length / 2, 0), -2);
        check.due("first" + name, x.loan(0, 6), due.length == 0 ? -1 : due[0]);
        check.due("last" + name, x.loan(0, 7), due.length == 0 ? -1 : due[due.length - 1]);
    }

    private static void windowLimits() {
        LoanLayers x = check.told("law 0 20 p b .;law 1 10 p b .;loan 0 1 p b", 3);
        check.due("no meeting", x.loan(0, 5), 0);
        limits(x, 0, 99, 0, 9, 20, 99);
        limits(x, 9, 20, 9, 9, 20, 20);
        limits(x, 10, 19);
        limits(x, 0, 0, 0, 0);
        limits(x, 99, 99, 99, 99);
        limits(x, 5, 12, 5, 9);
        limits(x, 12, 50, 20, 50);
        limits(x, 8, 9, 8, 9);
        limits(x, 20, 21, 20, 21);
        x.part(0, 1);
        check.due("parted", x.loan(0, 5), 0);
        x.meet(1, 0, 0, 99);
        check.due("the other direction", x.loan(0, 5), 0);
        x.repeal(0);
        x.repeal(0);
        limits(x, 0, 99);
        x.law(1, 1, 15, 1, 0, 0);
        limits(x, 0, 99, 0, 0);
        x.undo();
        x.undo();
        x.law(0, 99, 15, 1, 0, 0);
        limits(x, 0, 99, 99, 99);
    }

    /** Laws of two tongues in turn, which make b of a, and one that makes a of b again. */
    private static void manyWindows() {
        LoanLayers x = check.told("meet 0 1 0 99;loan 0 1 a a", 2);
        for (int d = 1; d <= 16; d++) check.due("law", x.law(0, 6 * d, d % 2 == 1 ? 0 : 1, d % 2, 0, 0), d - 1);
        check.due("loan(0, 5)", x.loan(0, 5), 9);
        for (int k = 0; k <= 8; k++) {
            check.due("window(0, k, 0)", x.window(0, k, 0), 12 * k);
            check.due("window(0, k, 1)", x.window(0, k, 1), k == 8 ? 99 : 12 * k + 5);
        }
        check.due("window(0, 9, 0)", x.window(0, 9, 0), -2);
    }

    private static void taken() {
        LoanLayers x = check.told("law 0 10 a b .;law 1 10 a - .;law 1 30 b c .;loan 0 1 ax z", 4);
        check.due("taken(0, 9, -1)", x.taken(0, 9, -1), 1);
        check.due("taken(0, 9, 0)", x.taken(0, 9, 0), 23);
        check.due("taken(0, 9, 1)", x.taken(0, 9, 1), -2);
        check.due("taken(0, 10, -1)", x.taken(0, 10, -1), 2);
        check.due("taken(0, 10, 0)", x.taken(0, 10, 0), 2);
        check.due("taken(0, 29, 0)", x.taken(0, 29, 0), 2);
        check.due("taken(0, 30, 0)", x.taken(0, 30, 0), 1);
        check.due("taken(0, 99, 0)", x.taken(0, 99, 0), 1);
        check.due("taken(0, 0, -1)", x.taken(0, 0, -1), 1);
        check.due("taken(0, 99, 2)", x.taken(0, 99, 2), -2);
        check.due("taken(0, 99, -2)", x.taken(0, 99, -2), -2);
        check.due("taken(0, -1, 9)", x.taken(0, -1, 9), -3);
        check.due("taken(0, 100, 9)", x.taken(0, 100, 9), -3);
        check.due("taken(1, 100, 9)", x.taken(1, 100, 9), -2);
        check.due("taken(-1, 0, 0)", x.taken(-1, 0, 0), -2);
    }

    private static void gone() {
        LoanLayers x = check.told("law 2 10 a b .;law 2 20 b - .;loan 0 1 ax z", 3);
        check.due("gone to 9", x.gone(0, 2, 0, 9, 0), 0);
        check.due("gone to 10", x.gone(0, 2, 0, 10, 0), 1);
        check.due("gone to 20", x.gone(0, 2, 0, 20, -1), 1);
        check.due("gone from 9", x.gone(0, 2, 9, 10, 0), 1);
        check.due("gone from 10", x.gone(0, 2, 10, 99, 0), 0);
        check.due("gone backwards", x.gone(0, 2, 99, 0, 0), 0);
        check.due("gone nowhere", x.gone(0, 2, 10, 10, 0), 0);
        check.due("gone elsewhere", x.gone(0, 3, 0, 99, -1), 2);
        check.due("gone, no sound", x.gone(0, 2, 0, 99, 1), -2);
        check.due("gone, sound -2", x.gone(0, 2, 0, 99, -2), -2);
        check.due("d -1", x.gone(0, 2, -1, 99, 7), -3);
        check.due("d 100", x.gone(0, 2, 100, 99, 7), -3);
        check.due("e -1", x.gone(0, 2, 0, -1, 7), -3);
        check.due("e 100", x.gone(0, 2, 0, 100, 7), -3);
        check.due("tongue 4", x.gone(0, 4, 100, 0, 0), -2);
        check.due("tongue -1", x.gone(0, -1, 0, 0, 0), -2);
        check.due("loan 1", x.gone(1, 0, 100, 0, 0), -2);
        check.due("loan -1", x.gone(-1, 0, 0, 0, 0), -2);
    }

    private static void did() {
        LoanLayers x = check.told("law 0 30 a c .;law 1 20 a b .;law 1 40 b d .;law 1 50 c - .;law 2 60 a b .;loan 0 1 a z", 6);
        // The laws are numbered: 0 of tongue 1 at 20, 1 of tongue 0 at 30, 2 at 40, 3 at 50, 4 of tongue 2.
        int[][] due = {{0, 19, 1}, {0, 20, 2}, {0, 29, 2}, {0, 30, 0}, {0, 99, 0}, {2, 19, 1}, {2, 20, 0}, {2, 40, 0},
            {3, 0, 0}, {3, 29, 0}, {3, 30, 1}, {3, 49, 1}, {3, 50, 2}, {3, 99, 2},
            {1, 10, -2}, {4, 10, -2}, {4, 100, -2}, {5, 10, -2}, {-1, 10, -2}, {0, -1, -3}, {0, 100, -3}};
        for (int[] row : due) check.due("did(0, " + row[0] + ", " + row[1] + ")", x.did(0, row[0], row[1]), row[2]);
        check.due("did(1, 0, 10)", x.did(1, 0, 10), -2);
        check.due("did(1, 0, 100)", x.did(1, 0, 100), -2);
        check.due("did(-1, 0, 10)", x.did(-1, 0, 10), -2);
    }

    private static void layers() {
        String laws = "law 1 20 a b .;law 1 40 a c .;law 1 60 a d .;meet 0 1 0 99;meet 2 1 0 99";
        LoanLayers x = check.told(laws + ";loan 0 1 a a;loan 0 1 a b;loan 2 1 a d;loan 0 1 a c;loan 0 1 a q;loan 2 1 e e", 11);
        int[] layers = {4, 1, 3, 2, 0, 1};
        int[] older = {3, 0, 2, 1, 0, 0};
        for (int i = 0; i < 6; i++) {
            check.due("layer of " + i, x.loan(i, 8), layers[i]);
            check.due("older than " + i, x.loan(i, 9), older[i]);
        }
        check.due("count(6)", x.count(6), 4);
        check.due("older(1, 0)", x.older(1, 0), 1);
        check.due("older(0, 1)", x.older(0, 1), 0);
        check.due("older(1, 2)", x.older(1, 2), 1);
        check.due("older(1, 1)", x.older(1, 1), 0);
        check.due("older(4, 0)", x.older(4, 0), 0);
        check.due("older(1, 4)", x.older(1, 4), 0);
        check.due("older(5, 0)", x.older(5, 0), 0);
        check.due("older(6, 0)", x.older(6, 0), -2);
        check.due("older(0, 6)", x.older(0, 6), -2);
        check.due("older(-1, 0)", x.older(-1, 0), -2);
        check.due("older(0, -1)", x.older(0, -1), -2);
        x.drop(3);
        check.due("layer without the second", x.loan(0, 8), 3);
        x.meet(2, 1, 20, 60);
        check.due("layer of 4 from date 20", x.loan(4, 8), 2);
        check.due("count(6)", x.count(6), 3);
    }

    private static void olderAcross() {
        LoanLayers x = check.told("meet 0 1 0 10;meet 0 2 11 20;meet 3 1 10 20;meet 2 1 11 20", 4);
        Check.type(x, "loan 0 1 a a;loan 0 2 a a;loan 3 1 a a;loan 2 1 a a");
        check.due("tell()", x.tell(), 4);
        check.due("into another tongue", x.older(0, 1), 0);
        check.due("a date in common", x.older(0, 2), 0);
        check.due("no date in common", x.older(0, 3), 1);
        check.due("layer of 1", x.loan(1, 8), 1);
        check.due("layer of 2", x.loan(2, 8), 1);
        check.due("layer of 3", x.loan(3, 8), 2);
        x.meet(2, 1, 99, 99);
        check.due("layer of 3 at the last date", x.loan(3, 8), 2);
        x.meet(3, 1, 98, 98);
        check.due("and behind another one", x.loan(3, 8), 3);
        x.meet(0, 1, 0, 0);
        check.due("layer of 0 at the first date", x.loan(0, 8), 1);
    }

    private static void roadErrors() {
        LoanLayers x = check.told("meet 0 1 5 9;loan 0 1 a a;loan 0 1 a b", 3);
        check.due("word 2", x.road(2, 0, 0, 1, -2), -2);
        check.due("word -1", x.road(-1, 0, 0, 1, -1), -2);
        check.due("end 2", x.road(0, 0, 2, 1, -1), -2);
        check.due("end -1", x.road(0, 0, -1, 1, -1), -2);
        check.due("from 4", x.road(0, 4, 0, 1, -1), -2);
        check.due("from -1", x.road(0, -1, 0, 1, -1), -2);
        check.due("to 4", x.road(0, 0, 0, 4, -2), -2);
        check.due("to -1", x.road(0, 0, 0, -1, -1), -2);
        check.due("k -2", x.road(0, 0, 0, 1, -2), -3);
        check.due("k MIN", x.road(0, 0, 1, 1, Integer.MIN_VALUE), -3);
        check.due("no way", x.road(0, 0, 1, 1, -1), -1);
        check.due("no way, step 0", x.road(0, 0, 1, 1, 0), -1);
        check.due("a way", x.road(0, 0, 0, 1, -1), 1);
        check.due("its step", x.road(0, 0, 0, 1, 0), 21);
        check.due("no second step", x.road(0, 0, 0, 1, 1), -1);
        check.due("no step MAX", x.road(0, 0, 0, 1, Integer.MAX_VALUE), -1);
        check.due("the same tongue", x.road(0, 2, 0, 2, -1), 0);
        check.due("no step on it", x.road(0, 2, 0, 2, 0), -1);
        check.due("no meeting", x.road(0, 1, 0, 0, -1), -1);
    }

    private static void way(LoanLayers x, int word, int from, int end, int to, int... due) {
        String name = "road(" + word + ", " + from + ", " + end + ", " + to + ", ";
        check.due(name + "-1)", x.road(word, from, end, to, -1), due.length / 2);
        for (int k = 0; k < due.length / 2; k++) {
            check.due(name + k + ")", x.road(word, from, end, to, k), 4 * due[2 * k] + due[2 * k + 1]);
        }
        check.due(name + due.length / 2 + ")", x.road(word, from, end, to, due.length / 2), -1);
    }

    private static void roadSteps() {
        LoanLayers x = check.told("meet 0 1 10 20;meet 1 2 15 30;meet 2 3 25 40;loan 0 1 a a;loan 0 1 b b", 5);
        way(x, 0, 0, 0, 1, 10, 1);
        way(x, 0, 0, 0, 2, 10, 1, 15, 2);
        way(x, 0, 0, 0, 3, 10, 1, 15, 2, 25, 3);
        check.due("no way back", x.road(0, 3, 0, 0, -1), -1);
        x.law(2, 20, 0, 1, 0, 0);
        way(x, 0, 0, 0, 3, 10, 1, 20, 2, 25, 3);
        way(x, 0, 0, 1, 3, 10, 1, 15, 2, 25, 3);
        x.law(2, 28, 0, 1, 0, 0);
        way(x, 0, 0, 0, 3, 10, 1, 20, 2, 25, 3);
        x.law(3, 33, 0, 2, 0, 0);
        way(x, 0, 0, 0, 3, 10, 1, 28, 2, 33, 3);
        x.law(2, 31, 0, 1, 0, 0);
        check.due("it changes in the third or the fourth", x.road(0, 0, 0, 3, -1), -1);
        x.part(0, 1);
        check.due("parted", x.road(0, 0, 1, 3, -1), -1);
    }

    private static void roadSameDate() {
        LoanLayers x = check.told("law 0 50 a b .;law 1 50 b c .;law 2 50 b c .;law 2 51 b d .;meet 0 1 50 50;meet 1 2 50 50", 6);
        Check.type(x, "loan 0 1 a b;loan 0 2 a d;loan 0 2 a c;loan 0 2 a a");
        check.due("tell()", x.tell(), 4);
        way(x, 0, 0, 0, 1, 50, 1);
        way(x, 0, 0, 1, 2, 50, 1, 50, 2);
        check.due("laws of the date are applied before", x.road(0, 0, 2, 2, -1), -1);
        check.due("and always", x.road(0, 0, 3, 1, -1), -1);
        x.meet(2, 3, 0, 50);
        x.meet(2, 3, 50, 99);
        way(x, 0, 0, 0, 3, 50, 1, 50, 2, 50, 3);
        way(x, 0, 0, 1, 3, 50, 1, 50, 2, 51, 3);
        x.meet(0, 1, 0, 99);
        x.meet(1, 0, 0, 99);
        x.meet(1, 2, 0, 99);
        way(x, 3, 0, 3, 1, 0, 1);
        check.due("b comes only with date 50", x.road(0, 0, 2, 1, -1), -1);
    }

    private static void roadFirst() {
        LoanLayers x = check.told("meet 0 2 3 9;meet 0 1 3 9;meet 1 3 5 9;meet 2 3 4 9;loan 0 3 a a", 5);
        way(x, 0, 0, 0, 3, 3, 1, 5, 3);
        x.meet(0, 2, 2, 9);
        way(x, 0, 0, 0, 3, 2, 2, 4, 3);
        x.meet(0, 3, 99, 99);
        way(x, 0, 0, 0, 3, 99, 3);
        x.law(3, 40, 0, 1, 0, 0);
        way(x, 0, 0, 0, 3, 99, 3);
        x.part(0, 3);
        check.due("it changes", x.road(0, 0, 0, 3, -1), -1);
        x.meet(1, 3, 5, 40);
        way(x, 0, 0, 0, 3, 3, 1, 40, 3);
    }

    /** A tongue can be visited several times: the word evades a law of its own tongue. */
    private static void roadReturns() {
        LoanLayers x = check.told("law 0 10 a b .;meet 0 1 2 50;meet 1 0 4 50;loan 0 1 a a", 4);
        way(x, 0, 0, 0, 0, 2, 1, 10, 0);
        x.law(0, 20, 0, 1, 0, 0);
        way(x, 0, 0, 0, 0, 2, 1, 20, 0);
        x.law(1, 15, 0, 1, 0, 0);
        check.due("four steps would do", x.road(0, 0, 0, 0, -1), -1);
        way(x, 0, 1, 0, 0, 10, 0, 15, 1, 20, 0);
    }

    private static void count() {
        LoanLayers x = check.told("law 0 1 a b .;law 2 2 a b .;law 2 3 a b .;law 3 3 a b .;meet 0 1 2 3;loan 0 1 a b;loan 1 2 a a", 7);
        x.law(3, 4, 5, 6, 0, 0);
        x.type(97);
        x.type(97);
        int[] due = {5, 1, 2, 1, 1, 0, 1, 1, 2, 1, 0, 2, 2};
        for (int w = 0; w < due.length; w++) check.due("count(" + w + ")", x.count(w), due[w]);
        check.due("count(-1)", x.count(-1), -3);
        check.due("count(13)", x.count(13), -3);
        check.due("count(MIN)", x.count(Integer.MIN_VALUE), -3);
    }
}
