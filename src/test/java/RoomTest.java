import com.sun.management.ThreadMXBean;
import java.lang.management.ManagementFactory;

/** What a run makes is little: all calls of one run live in one room, and nothing in it is cleared away. */
public final class RoomTest {
    private static final Checks C = new Checks("RoomTest");
    private static final ThreadMXBean THREADS = (ThreadMXBean) ManagementFactory.getThreadMXBean();
    private static final int CALLS = 512;

    public static void main(String[] args) {
        // Once ahead, so that what the machine itself makes when a class is first used is not counted.
        anObject();
        for (int round = 0; round < 2; round++) {
            boolean isCounted = round == 1;
            within("an object", anObject(), 80_000, isCounted);
            MoveNotes x = dear();
            within("questions about READINGS", questions(x), 20_000, isCounted);
            within("ALIKE", made(() -> x.alike(0, 1)), 120_000, isCounted);
            within("a BOOK that is WRITTEN", written(x), 40_000, isCounted);
            within("texts", texts(x), 20_000, isCounted);
        }
        C.end();
    }

    private static void within(String what, long bytes, long most, boolean isCounted) {
        if (isCounted) {
            C.isTrue(CALLS + " calls make " + bytes + " bytes at most " + most + ": " + what, bytes <= most);
        }
    }

    private static long bytes() {
        return THREADS.getThreadAllocatedBytes(Thread.currentThread().getId());
    }

    /** What so many calls make, in bytes. */
    private static long made(Checks.Call call) {
        long before = bytes();
        long sum = 0;
        for (int n = 0; n < CALLS; n++) {
            sum += call.answer();
        }
        long after = bytes();
        C.isTrue("answered", sum != Long.MIN_VALUE);
        return after - before;
    }

    private static long anObject() {
        long before = bytes();
        MoveNotes x = new MoveNotes();
        long after = bytes();
        C.same("empty", x.count(0), 0);
        return after - before;
    }

    /** Three BOOKS of a game with SLIPS, and a MEASURE. */
    private static MoveNotes dear() {
        MoveNotes x = new MoveNotes();
        Checks.kind(x, "straight 5;slant 5;leap", 9);
        Checks.kind(x, "leap;bite;ahead 2", 3);
        Checks.measure(x, "add 3 * took if takes and not (safe or number > 3 + men);add 5 if safe");
        for (int n = 0; n < 6; n++) {
            x.put(7 * n % 36, n % 2, n / 3);
        }
        for (int slip = 1; slip <= 7; slip++) {
            x.price(slip, 2);
        }
        x.write(0, 3, 3, 77);
        x.write(1, 3, 3, 77);
        x.image();
        x.write(0, 3, 3, 77);
        return x;
    }

    private static long questions(MoveNotes x) {
        return made(() -> {
            // What is known of READINGS is forgotten, so that it is laid out anew.
            x.price(1, 2);
            return x.least() + x.many() + x.read(0) + x.slip(0, 0) + x.slips(1, 6) + x.best(-1) + x.odds(0, 1, true)
                    + x.brief(0) + x.part() + x.shared(0, 1, true) + x.way(0) + x.cheaper(2) + x.breaks(1) + x.count(6);
        });
    }

    private static long written(MoveNotes x) {
        return made(() -> {
            x.back();
            return x.write(1, 24, 9, 5);
        });
    }

    private static long texts(MoveNotes x) {
        return made(() -> {
            x.feed(0x61646420, 0x37206966, 0x20736166, 0x65202020, 0x20202020);
            return x.measure();
        });
    }
}
