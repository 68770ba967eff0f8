import java.util.ArrayList;
import java.util.List;

/**
 * Ways to look at an object, from all sides together: two objects whose answers are the same in each view
 * are in the same state. A view may change what it looks at, so that each one gets an object of its own.
 */
final class Views {
    interface View {
        List<Integer> of(Probe x);
    }

    static final List<View> ALL = List.of(Views::lawsAndMeetings, Views::loans, Views::findings, Views::roads,
        Views::text, Views::whatIsTold, Views::undone, x -> restored(x, 0), x -> restored(x, 1), Views::acts);

    private Views() {
    }

    private static List<Integer> lawsAndMeetings(Probe x) {
        List<Integer> seen = new ArrayList<>();
        for (int what = 0; what <= 12; what++) seen.add(x.count(what));
        addLaws(x, seen);
        for (int pair = 0; pair < 16; pair++) {
            int first = x.meeting(pair / 4, pair % 4, 0);
            seen.add(first);
            if (first >= 0) seen.add(x.meeting(pair / 4, pair % 4, 1));
        }
        return seen;
    }

    private static void addLaws(Probe x, List<Integer> seen) {
        for (int law = x.count(0) - 1; law >= 0; law--) {
            for (int what = 0; what <= 5; what++) seen.add(x.told(law, what));
        }
    }

    private static List<Integer> loans(Probe x) {
        List<Integer> seen = new ArrayList<>();
        for (int loan = x.count(2) - 1; loan >= 0; loan--) {
            for (int what = 0; what <= 9; what++) seen.add(x.loan(loan, what));
            addSounds(x, loan, seen);
        }
        return seen;
    }

    private static void addSounds(Probe x, int loan, List<Integer> seen) {
        for (int what = 0; what <= 1; what++) {
            for (int i = x.loan(loan, 2 + what) - 1; i >= 0; i--) seen.add(x.sound(loan, what, i));
        }
    }

    private static List<Integer> findings(Probe x) {
        List<Integer> seen = new ArrayList<>();
        int loans = Math.min(x.count(2), 4);
        for (int loan = 0; loan < loans; loan++) {
            for (int k = 0; k <= 2; k++) {
                seen.add(x.window(loan, k, 0));
                seen.add(x.window(loan, k, 1));
            }
            for (int date = 0; date <= 99; date += 11) seen.add(x.taken(loan, date, 0));
            for (int other = 0; other < loans; other++) seen.add(x.older(loan, other));
            for (int tongue = 0; tongue < 4; tongue++) seen.add(x.gone(loan, tongue, 0, 99, 0));
        }
        return seen;
    }

    private static List<Integer> roads(Probe x) {
        List<Integer> seen = new ArrayList<>();
        for (int pair = 0; pair < 16; pair++) {
            for (int k = -1; k <= 2; k++) seen.add(x.road(0, pair / 4, 0, pair % 4, k));
        }
        return seen;
    }

    private static List<Integer> text(Probe x) {
        return List.of(x.count(8), x.fault(), x.type(';'), x.fault(), x.erase(), x.erase(), x.fault());
    }

    private static List<Integer> whatIsTold(Probe x) {
        List<Integer> seen = new ArrayList<>(List.of(x.tell(), x.count(8), x.count(7), x.count(1), x.count(2)));
        addLaws(x, seen);
        return seen;
    }

    private static List<Integer> undone(Probe x) {
        List<Integer> seen = new ArrayList<>();
        for (int i = 0; i <= 9; i++) {
            seen.add(x.undo());
            for (int what : new int[] {0, 1, 2, 4, 6, 7, 8}) seen.add(x.count(what));
        }
        addLaws(x, seen);
        return seen;
    }

    private static List<Integer> restored(Probe x, int k) {
        List<Integer> seen = new ArrayList<>(List.of(x.back(k)));
        for (int what = 0; what <= 12; what++) seen.add(x.count(what));
        addLaws(x, seen);
        return seen;
    }

    private static List<Integer> acts(Probe x) {
        return List.of(x.law(3, 98, 0, 1, 0, 0), x.meet(3, 0, 7, 8), x.lend(0, 0, 1, 99), x.undo(), x.keep(0),
            x.repeal(0), x.drop(0), x.part(0, 1), x.undo(), x.count(7), x.back(0), x.count(7));
    }
}
