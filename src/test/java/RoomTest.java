import java.lang.management.ManagementFactory;

/** All calls of one run live in one room: the dearest calls must not make rows anew. */
public final class RoomTest {
    private static final int CALLS = 300;

    public static void main(String[] args) {
        Check check = new Check();
        // The first round is for what Java itself makes when a class is first used.
        for (int round = 0; round < 2; round++) {
            Check counted = round == 0 ? new Check() : check;
            bytes(counted, "new objects", 10_000_000, RoomTest::newObjects);
            bytes(counted, "normal", 1_000_000, x -> repeat(x, y -> y.normal(3, 2)));
            bytes(counted, "step", 1_000_000, x -> repeat(x, y -> y.step(3, 2)));
            bytes(counted, "head", 1_000_000, x -> repeat(x, y -> y.head(3, 1)));
            bytes(counted, "write", 1_000_000, x -> repeat(x, y -> y.write(4)));
            bytes(counted, "put", 1_000_000, x -> repeat(x, y -> y.put(5, 0, 1, 6)));
        }
        check.end();
    }

    private static void newObjects(BindingBench x) {
        for (int i = 0; i < CALLS; i++) {
            new BindingBench().free(0, 1);
        }
    }

    private static void repeat(BindingBench x, Calls call) {
        for (int i = 0; i < CALLS; i++) {
            try {
                call.on(x);
            } catch (RuntimeException e) {
                // What a call throws is told by other tests.
            }
        }
    }

    private static void bytes(Check check, String what, long most, Calls calls) {
        com.sun.management.ThreadMXBean threads =
            (com.sun.management.ThreadMXBean) ManagementFactory.getThreadMXBean();
        BindingBench x = new BindingBench();
        Terms.sized(x, 0, 1, 1900);
        Terms.set(x, 1, "(.(' ') .(' '))");
        x.apply(2, 0, 1);
        Terms.longText(x, 4);
        long before = threads.getThreadAllocatedBytes(Thread.currentThread().getId());
        calls.on(x);
        long used = threads.getThreadAllocatedBytes(Thread.currentThread().getId()) - before;
        if (used > most) {
            check.report(what + ": " + CALLS + " calls made " + used + " bytes, at most " + most + " are due");
        }
    }
}
