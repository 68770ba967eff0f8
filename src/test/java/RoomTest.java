import java.lang.management.ManagementFactory;
import java.util.function.IntConsumer;

/** All calls of a run share one room: 512 of the dearest calls must make little that is new. */
public final class RoomTest {
    private static final Check check = new Check();
    private static final long MOST_BYTES = 2_000_000;
    private static final int MOST_CALLS = 512;
    // What remains of the 512 calls of one object behind those that fill it.
    private static final int CALLS = 200;

    public static void main(String[] args) {
        String laws = "all;law0 1a b.;law0 2a b.;law0 3a b.;law0 4a b.;law0 5a b.;law0 6a b.;law0 7a b.;law0 8a b.;"
            + "law0 9a b.;law1 1a b.;law1 2a b.;law1 3a b.;law1 4a b.;law1 5a b.;law1 6a b.;law1 7a b.;al";
        LoanLayers told = crowded();
        Check.type(told, laws);
        within("fault()", i -> told.fault());
        LoanLayers asked = crowded();
        within("road()", i -> asked.road(0, 0, 1, i % 4, -1));
        LoanLayers counted = crowded();
        within("count()", i -> counted.count(3 + i % 4));
        LoanLayers met = crowded();
        within("meet()", i -> met.meet(0, 1, 0, 99));
        long before = made();
        for (int i = 0; i < MOST_CALLS; i++) new LoanLayers();
        check.holds("512 new objects stay below 8 million bytes", made() - before < 4 * MOST_BYTES);
        check.end();
    }

    private static LoanLayers crowded() {
        LoanLayers x = new LoanLayers();
        Check.type(x, "loan 0 1 abcabcab abc;loan 1 2 abcabcab zzzz");
        check.due("tell()", x.tell(), 2);
        for (int i = 0; i < 16; i++) x.meet(i / 4, i % 4, 0, 99);
        for (int i = 0; i < 16; i++) x.law(i % 4, 6 * i + 1, i % 3, (i + 1) % 3, i % 2, i % 5);
        for (int i = 0; i < 10; i++) x.lend(0, 0, 1, 10 * i);
        return x;
    }

    private static long made() {
        var thread = (com.sun.management.ThreadMXBean) ManagementFactory.getThreadMXBean();
        return thread.getThreadAllocatedBytes(Thread.currentThread().getId());
    }

    private static void within(String name, IntConsumer call) {
        call.accept(0);
        long before = made();
        for (int i = 1; i < CALLS; i++) call.accept(i);
        long bytes = (made() - before) * MOST_CALLS / CALLS;
        check.holds("512 calls of " + name + " would make " + bytes + " bytes", bytes < MOST_BYTES);
    }
}
