/** Promises 6 to 14: law, repeal, meet, part, lend, drop, undo, keep and back. */
public final class ActsTest {
    private static final Check check = new Check();

    public static void main(String[] args) {
        lawErrors();
        lawOrder();
        lawRoom();
        repeal();
        meet();
        part();
        lend();
        lendRoom();
        drop();
        undoEach();
        undoEight();
        undoAndErrors();
        keepAndBack();
        check.end();
    }

    private static void lawErrors() {
        LoanLayers x = new LoanLayers();
        check.due("tongue -1", x.law(-1, 0, 0, 0, 0, 0), -2);
        check.due("tongue 4", x.law(4, 5, 0, 1, 0, 0), -2);
        check.due("date 0", x.law(0, 0, 0, 0, 0, 0), -3);
        check.due("date 100", x.law(0, 100, 0, 1, 0, 0), -3);
        check.due("x -1", x.law(0, 5, -1, -1, 0, 0), -3);
        check.due("x 26", x.law(0, 5, 26, 26, 0, 0), -3);
        check.due("y -2", x.law(0, 5, 0, -2, 0, 0), -3);
        check.due("y 26", x.law(0, 5, 0, 26, 0, 0), -3);
        check.due("where -1", x.law(0, 5, 0, 1, -1, 0), -3);
        check.due("where 3", x.law(0, 5, 0, 1, 3, 0), -3);
        check.due("z -1 before", x.law(0, 5, 0, 1, 1, -1), -3);
        check.due("z 26 after", x.law(0, 5, 0, 1, 2, 26), -3);
        check.due("x is y", x.law(0, 5, 7, 7, 0, 0), -4);
        check.due("x is y, z wrong", x.law(0, 5, 7, 7, 1, 26), -3);
        check.due("count(0)", x.count(0), 0);
        check.due("count(7)", x.count(7), 0);
        check.due("z not checked", x.law(0, 99, 25, -1, 0, Integer.MIN_VALUE), 0);
        check.due("told(0, 5)", x.told(0, 5), -1);
        check.due("the same date", x.law(0, 99, 1, 2, 0, 0), -4);
        check.due("edges", x.law(3, 1, 0, 25, 2, 25), 0);
        check.due("edges", x.law(3, 2, 25, 0, 1, 0), 1);
    }

    private static void lawOrder() {
        LoanLayers x = new LoanLayers();
        check.due("law 2 50", x.law(2, 50, 0, 1, 0, 0), 0);
        check.due("law 1 50", x.law(1, 50, 0, 2, 0, 0), 0);
        check.due("law 3 50", x.law(3, 50, 0, 3, 0, 0), 2);
        check.due("law 0 51", x.law(0, 51, 0, 4, 0, 0), 3);
        check.due("law 3 49", x.law(3, 49, 0, 5, 0, 0), 0);
        check.due("law 0 50", x.law(0, 50, 0, 6, 0, 0), 1);
        int[][] due = {{3, 49}, {0, 50}, {1, 50}, {2, 50}, {3, 50}, {0, 51}};
        for (int i = 0; i < due.length; i++) {
            check.due("tongue of " + i, x.told(i, 0), due[i][0]);
            check.due("date of " + i, x.told(i, 1), due[i][1]);
        }
    }

    private static void lawRoom() {
        LoanLayers x = new LoanLayers();
        for (int i = 0; i < 16; i++) check.due("law " + i, x.law(i % 4, 99 - i, 0, 1, 0, 0), 0);
        check.due("a seventeenth", x.law(0, 1, 0, 1, 0, 0), -5);
        check.due("no room, x is y", x.law(0, 1, 1, 1, 0, 0), -4);
        check.due("no room, same date", x.law(0, 99, 0, 1, 0, 0), -4);
        check.due("no room, outside", x.law(0, 0, 0, 1, 0, 0), -3);
        check.due("no room, unknown", x.law(9, 1, 0, 1, 0, 0), -2);
        check.due("count(0)", x.count(0), 16);
        check.due("told(15, 1)", x.told(15, 1), 99);
        check.due("told(16, 1)", x.told(16, 1), -2);
        check.due("repeal(15)", x.repeal(15), 15);
        check.due("now there is room", x.law(0, 99, 0, 1, 0, 0), 15);
    }

    private static void repeal() {
        LoanLayers x = new LoanLayers();
        check.due("repeal(0)", x.repeal(0), -2);
        for (int d = 10; d <= 40; d += 10) x.law(1, d, 0, 1, 0, 0);
        check.due("repeal(-1)", x.repeal(-1), -2);
        check.due("repeal(4)", x.repeal(4), -2);
        check.due("repeal(MAX)", x.repeal(Integer.MAX_VALUE), -2);
        check.due("repeal(1)", x.repeal(1), 3);
        check.due("told(0, 1)", x.told(0, 1), 10);
        check.due("told(1, 1)", x.told(1, 1), 30);
        check.due("told(2, 1)", x.told(2, 1), 40);
        check.due("told(3, 1)", x.told(3, 1), -2);
        check.due("repeal(2)", x.repeal(2), 2);
        check.due("repeal(0)", x.repeal(0), 1);
        check.due("told(0, 1)", x.told(0, 1), 30);
        check.due("repeal(0)", x.repeal(0), 0);
        check.due("repeal(0)", x.repeal(0), -2);
    }

    private static void meet() {
        LoanLayers x = new LoanLayers();
        check.due("the same tongue", x.meet(1, 1, 200, 1), -2);
        check.due("from -1", x.meet(-1, 1, 0, 1), -2);
        check.due("from 4", x.meet(4, 1, 0, 1), -2);
        check.due("to -1", x.meet(1, -1, 0, 1), -2);
        check.due("to 4", x.meet(1, 4, 0, 1), -2);
        check.due("a -1", x.meet(0, 1, -1, 5), -3);
        check.due("a 100", x.meet(0, 1, 100, 100), -3);
        check.due("b less than a", x.meet(0, 1, 5, 4), -3);
        check.due("b 100", x.meet(0, 1, 5, 100), -3);
        check.due("count(1)", x.count(1), 0);
        check.due("meet(0, 1, 0, 99)", x.meet(0, 1, 0, 99), 1);
        check.due("meet(1, 0, 99, 99)", x.meet(1, 0, 99, 99), 2);
        check.due("meet(0, 1, 7, 7)", x.meet(0, 1, 7, 7), 2);
        check.due("meeting(0, 1, 0)", x.meeting(0, 1, 0), 7);
        check.due("meeting(0, 1, 1)", x.meeting(0, 1, 1), 7);
        check.due("meeting(1, 0, 0)", x.meeting(1, 0, 0), 99);
        int number = 2;
        for (int from = 0; from < 4; from++) {
            for (int to = 0; to < 4; to++) {
                if (from == to || from + to == 1) continue;
                number++;
                check.due("meet " + from + to, x.meet(from, to, from, 10 + to), number);
            }
        }
        check.due("count(1)", x.count(1), 12);
        check.due("meeting(3, 2, 0)", x.meeting(3, 2, 0), 3);
        check.due("meeting(3, 2, 1)", x.meeting(3, 2, 1), 12);
    }

    private static void part() {
        LoanLayers x = new LoanLayers();
        x.meet(0, 1, 2, 3);
        x.meet(2, 1, 2, 3);
        check.due("part(1, 0)", x.part(1, 0), -2);
        check.due("part(1, 1)", x.part(1, 1), -2);
        check.due("part(-1, 1)", x.part(-1, 1), -2);
        check.due("part(0, 4)", x.part(0, 4), -2);
        check.due("part(4, 0)", x.part(4, 0), -2);
        check.due("part(0, 5)", x.part(0, 5), -2);
        check.due("part(0, 1)", x.part(0, 1), 1);
        check.due("meeting(0, 1, 0)", x.meeting(0, 1, 0), -2);
        check.due("part(0, 1)", x.part(0, 1), -2);
        check.due("part(2, 1)", x.part(2, 1), 0);
    }

    private static void lend() {
        LoanLayers x = check.told("law 0 10 a b .;law 1 20 b c .;law 2 5 a - .;loan 0 1 aba zz", 4);
        check.due("no loan", x.lend(1, 0, 1, 100), -2);
        check.due("loan -1", x.lend(-1, 0, 1, 5), -2);
        check.due("from 4", x.lend(0, 4, 1, 5), -2);
        check.due("to -1", x.lend(0, 0, -1, 5), -2);
        check.due("the same tongue", x.lend(0, 2, 2, -1), -2);
        check.due("date -1", x.lend(0, 0, 1, -1), -3);
        check.due("date 100", x.lend(0, 0, 1, 100), -3);
        check.due("count(2)", x.count(2), 1);
        check.due("lend(0, 0, 1, 9)", x.lend(0, 0, 1, 9), 2);
        ends(x, 1, "aca");
        check.due("lend(1, 0, 1, 10)", x.lend(1, 0, 1, 10), 3);
        ends(x, 2, "ccc");
        check.due("lend(0, 0, 1, 20)", x.lend(0, 0, 1, 20), 4);
        ends(x, 3, "bbb");
        check.due("lend(0, 2, 3, 99)", x.lend(0, 2, 3, 99), 5);
        ends(x, 4, "b");
        check.due("loan(4, 0)", x.loan(4, 0), 2);
        check.due("loan(4, 1)", x.loan(4, 1), 3);
        check.due("loan(4, 2)", x.loan(4, 2), 3);
        for (int i = 0; i < 3; i++) check.due("sound(4, 0, i)", x.sound(4, 0, i), i % 2);
    }

    private static void ends(LoanLayers x, int loan, String end) {
        check.due("length of end " + loan, x.loan(loan, 3), end.length());
        for (int i = 0; i < end.length(); i++) check.due("sound of end " + loan, x.sound(loan, 1, i), end.charAt(i) - 'a');
        check.due("sound behind end " + loan, x.sound(loan, 1, end.length()), -2);
    }

    private static void lendRoom() {
        LoanLayers x = check.told("loan 0 1 a b", 1);
        for (int n = 2; n <= 12; n++) check.due("lend", x.lend(n - 2, 3, 2, 0), n);
        check.due("a thirteenth", x.lend(0, 0, 1, 0), -5);
        check.due("no room, date 100", x.lend(0, 0, 1, 100), -3);
        check.due("no room, no loan", x.lend(12, 0, 1, 0), -2);
        check.due("drop(11)", x.drop(11), 11);
        check.due("lend", x.lend(10, 0, 1, 0), 12);
    }

    private static void drop() {
        LoanLayers x = check.told("loan 0 1 a b;loan 1 2 aa b;loan 2 3 aaa b", 3);
        check.due("drop(-1)", x.drop(-1), -2);
        check.due("drop(3)", x.drop(3), -2);
        check.due("drop(0)", x.drop(0), 2);
        check.due("loan(0, 2)", x.loan(0, 2), 2);
        check.due("loan(1, 2)", x.loan(1, 2), 3);
        check.due("loan(2, 2)", x.loan(2, 2), -2);
        check.due("drop(1)", x.drop(1), 1);
        check.due("loan(0, 2)", x.loan(0, 2), 2);
        check.due("drop(0)", x.drop(0), 0);
        check.due("drop(0)", x.drop(0), -2);
    }

    private static void undoEach() {
        LoanLayers x = check.told("loan 0 1 ab b", 1);
        x.law(0, 5, 0, 1, 0, 0);
        x.law(0, 4, 0, 2, 0, 0);
        x.repeal(0);
        x.meet(0, 1, 3, 4);
        x.meet(0, 1, 5, 6);
        x.part(0, 1);
        x.lend(0, 1, 2, 3);
        x.drop(0);
        check.due("count(7)", x.count(7), 8);
        check.due("undo drop", x.undo(), 7);
        check.due("count(2)", x.count(2), 2);
        check.due("loan(0, 1)", x.loan(0, 1), 1);
        check.due("undo lend", x.undo(), 6);
        check.due("count(2)", x.count(2), 1);
        check.due("undo part", x.undo(), 5);
        check.due("meeting(0, 1, 0)", x.meeting(0, 1, 0), 5);
        check.due("undo meet", x.undo(), 4);
        check.due("meeting(0, 1, 1)", x.meeting(0, 1, 1), 4);
        check.due("undo meet", x.undo(), 3);
        check.due("count(1)", x.count(1), 0);
        check.due("undo repeal", x.undo(), 2);
        check.due("told(0, 3)", x.told(0, 3), 2);
        check.due("undo law", x.undo(), 1);
        check.due("told(0, 3)", x.told(0, 3), 1);
        check.due("undo law", x.undo(), 0);
        check.due("count(0)", x.count(0), 0);
        check.due("undo()", x.undo(), -4);
        check.due("count(7)", x.count(7), 0);
    }

    private static void undoEight() {
        LoanLayers x = new LoanLayers();
        for (int d = 1; d <= 11; d++) x.law(0, d, 0, 1, 0, 0);
        check.due("count(7)", x.count(7), 8);
        for (int left = 7; left >= 0; left--) check.due("undo()", x.undo(), left);
        check.due("count(0)", x.count(0), 3);
        check.due("undo()", x.undo(), -4);
        check.due("count(0)", x.count(0), 3);
        x.law(1, 5, 0, 1, 0, 0);
        x.law(2, 5, 0, 1, 0, 0);
        check.due("undo()", x.undo(), 1);
        x.law(3, 5, 0, 1, 0, 0);
        check.due("undo()", x.undo(), 1);
        check.due("undo()", x.undo(), 0);
        check.due("count(0)", x.count(0), 3);
    }

    private static void undoAndErrors() {
        LoanLayers x = new LoanLayers();
        x.meet(0, 1, 2, 3);
        x.meet(0, 1, 2, 3);
        check.due("the same meeting is an act", x.count(7), 2);
        x.meet(0, 0, 2, 3);
        x.law(0, 0, 0, 0, 0, 0);
        x.repeal(0);
        x.part(2, 3);
        x.lend(0, 0, 1, 0);
        x.drop(0);
        x.keep(3);
        x.back(0);
        x.tell();
        x.keep(0);
        x.type(97);
        check.due("count(7)", x.count(7), 2);
        check.due("undo()", x.undo(), 1);
        check.due("meeting(0, 1, 0)", x.meeting(0, 1, 0), 2);
        check.due("undo()", x.undo(), 0);
        check.due("count(1)", x.count(1), 0);
        check.due("undo leaves the text", x.count(8), 1);
    }

    private static void keepAndBack() {
        LoanLayers x = check.told("law 0 9 a b .;meet 0 1 2 3;loan 0 1 ab c", 3);
        check.due("keep(-1)", x.keep(-1), -3);
        check.due("keep(2)", x.keep(2), -3);
        check.due("back(-1)", x.back(-1), -3);
        check.due("back(2)", x.back(2), -3);
        check.due("back(0)", x.back(0), -4);
        check.due("keep(0)", x.keep(0), 1);
        check.due("back(1)", x.back(1), -4);
        x.law(1, 9, 0, 1, 0, 0);
        x.part(0, 1);
        x.drop(0);
        check.due("keep(1)", x.keep(1), 2);
        x.repeal(0);
        x.type(98);
        check.due("count(7)", x.count(7), 4);
        check.due("back(0)", x.back(0), 1);
        check.due("count(7)", x.count(7), 0);
        check.due("undo()", x.undo(), -4);
        check.due("meeting(0, 1, 1)", x.meeting(0, 1, 1), 3);
        check.due("loan(0, 2)", x.loan(0, 2), 2);
        check.due("count(8)", x.count(8), 1);
        x.law(2, 1, 0, 1, 0, 0);
        x.drop(0);
        x.meet(0, 1, 50, 60);
        check.due("back(0) again", x.back(0), 1);
        check.due("meeting(0, 1, 0)", x.meeting(0, 1, 0), 2);
        check.due("count(2)", x.count(2), 1);
        check.due("back(1)", x.back(1), 2);
        check.due("count(1)", x.count(1), 0);
        check.due("count(2)", x.count(2), 0);
        check.due("keep(0) in place of the other", x.keep(0), 2);
        x.repeal(0);
        check.due("undo()", x.undo(), 0);
        check.due("back(0)", x.back(0), 2);
        check.due("told(1, 0)", x.told(1, 0), 1);
    }
}
