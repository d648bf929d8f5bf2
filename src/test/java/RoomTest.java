import java.lang.management.ManagementFactory;

/** Calls make no objects: all calls of a run live in one room, so rows are made in constructors alone. */
public final class RoomTest {
    /** A new object's rows; far below the room of one run. */
    private static final long MOST_BYTES_AN_OBJECT = 100_000;
    /** What measuring itself may make. */
    private static final long MOST_BYTES_OF_CALLS = 10_000;

    public static void main(String[] args) {
        com.sun.management.ThreadMXBean threads =
                (com.sun.management.ThreadMXBean) ManagementFactory.getThreadMXBean();
        long self = Thread.currentThread().getId();
        dearestCalls(new PaperSetter(), 2);
        long before = threads.getThreadAllocatedBytes(self);
        PaperSetter x = new PaperSetter();
        long made = threads.getThreadAllocatedBytes(self);
        int answers = dearestCalls(x, 40);
        long behind = threads.getThreadAllocatedBytes(self);
        Check.due("a new object is small", made - before <= MOST_BYTES_AN_OBJECT, true);
        Check.due("calls make nothing", behind - made <= MOST_BYTES_OF_CALLS, true);
        Check.due("answers of the dearest calls", answers != 0, true);
        Check.end();
    }

    private static int dearestCalls(PaperSetter x, int times) {
        int answers = 0;
        for (int q = 0; q < 16; q++) {
            x.question(q % 4, q % 3, 1 + q, 1 + q * 7 % 13, 1 + q * 5 % 9);
        }
        for (int topic = 0; topic < 4; topic++) {
            x.profile(topic, 15);
        }
        x.rest(1);
        x.use(63);
        for (int i = 0; i < times; i++) {
            answers += x.best() + x.why() + x.order(255) + x.look(65535, 1) + x.place(3) + x.count(1);
            x.term();
            answers += x.versions(5) + x.second();
            x.use(63);
            x.rest(i % 2);
        }
        return answers;
    }
}
