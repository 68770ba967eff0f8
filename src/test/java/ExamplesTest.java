/** The three examples of the document's description, call by call. */
public final class ExamplesTest {
    private static final Check check = new Check();

    public static void main(String[] args) {
        first();
        second();
        third();
        check.end();
    }

    private static void typeAll(LoanLayers x, int... letters) {
        for (int i = 0; i < letters.length; i++) check.due("type(" + letters[i] + ")", x.type(letters[i]), i + 1);
    }

    private static void first() {
        LoanLayers x = new LoanLayers();
        typeAll(x, 108, 111, 97, 110, 32, 48, 32, 49, 32, 97, 98, 32, 97);
        check.due("tell()", x.tell(), 1);
        check.due("law(1,50,1,-1,0,9)", x.law(1, 50, 1, -1, 0, 9), 0);
    }

    private static void second() {
        LoanLayers x = new LoanLayers();
        typeAll(x, 108, 111, 97, 110, 48, 32, 49, 112, 32, 98);
        check.due("tell()", x.tell(), 1);
        check.due("law(0,20,15,1,0,0)", x.law(0, 20, 15, 1, 0, 0), 0);
        check.due("law(1,10,15,1,0,0)", x.law(1, 10, 15, 1, 0, 0), 0);
        check.due("meet(0,1,0,99)", x.meet(0, 1, 0, 99), 1);
        check.due("loan(0,4)", x.loan(0, 4), 2);
    }

    private static void third() {
        LoanLayers x = new LoanLayers();
        check.due("law(0,20,0,1,0,0)", x.law(0, 20, 0, 1, 0, 0), 0);
        check.due("law(0,20,0,2,0,0)", x.law(0, 20, 0, 2, 0, 0), -4);
        check.due("law(1,20,0,0,0,0)", x.law(1, 20, 0, 0, 0, 0), -4);
        check.due("law(4,20,0,1,0,0)", x.law(4, 20, 0, 1, 0, 0), -2);
        check.due("law(0,0,0,1,1,26)", x.law(0, 0, 0, 1, 1, 26), -3);
        check.due("told(0,5)", x.told(0, 5), -1);
        check.due("meet(2,2,0,5)", x.meet(2, 2, 0, 5), -2);
        check.due("meet(2,3,9,5)", x.meet(2, 3, 9, 5), -3);
        check.due("part(2,3)", x.part(2, 3), -2);
        check.due("fault()", x.fault(), 0);
        check.due("tell()", x.tell(), -4);
        check.due("type(59)", x.type(59), 1);
        check.due("fault()", x.fault(), 0);
        check.due("back(0)", x.back(0), -4);
        check.due("undo()", x.undo(), 0);
        check.due("lend(0,0,1,5)", x.lend(0, 0, 1, 5), -2);
    }
}
