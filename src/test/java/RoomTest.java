import com.sun.management.ThreadMXBean;
import java.lang.management.ManagementFactory;

/** A run's calls share one room without a broom: what they make in all must stay small. */
public final class RoomTest {
    private static final long MOST_BYTES_OF_AN_OBJECT = 15_000;
    private static final long MOST_BYTES_OF_A_RUN = 150_000;

    private RoomTest() {
    }

    public static void main(String[] args) {
        ThreadMXBean meter = (ThreadMXBean) ManagementFactory.getThreadMXBean();
        for (int round = 0; round < 20; round++) {
            dearRun();
            tellingRun();
            faultyRun();
        }
        long start = meter.getCurrentThreadAllocatedBytes();
        KeepForget k = new KeepForget();
        long made = meter.getCurrentThreadAllocatedBytes();
        dearRun();
        long dear = meter.getCurrentThreadAllocatedBytes();
        tellingRun();
        long telling = meter.getCurrentThreadAllocatedBytes();
        faultyRun();
        long faulty = meter.getCurrentThreadAllocatedBytes();
        small("a new object", made - start, MOST_BYTES_OF_AN_OBJECT);
        small("dear calls", dear - made, MOST_BYTES_OF_A_RUN);
        small("many rules", telling - dear, MOST_BYTES_OF_A_RUN);
        small("many faulty rules", faulty - telling, MOST_BYTES_OF_A_RUN);
        Checks.due("the new object's day", k.count(0), 0);
        Checks.end();
    }

    private static void small(String what, long bytes, long most) {
        System.out.println(what + ": " + bytes + " bytes");
        Checks.due(what + ": more than " + most + " bytes", bytes > most, false);
    }

    /** Things with many copies, then many sweeps and questions about all of them. */
    private static void dearRun() {
        KeepForget k = new KeepForget();
        for (int i = 0; i < 30; i++) {
            k.thing(i % 4);
            k.event(i, 0, 0);
        }
        Checks.tell(k, "keep any all 100 years from e0 rank 1;end any all 9 months from e0;".repeat(12), 0);
        Checks.tell(k, "end any all 200 years from e0 rank 1;", 1000);
        for (int i = 0; i < 120; i++) {
            k.copy(i % 30, i % 8, i % 4);
        }
        for (int i = 0; i < 50; i++) {
            k.days(1000);
            k.misplaced();
            k.differ(0, 1);
            k.wish(i % 30);
            k.planned(i % 30, i % 8, i % 4);
        }
    }

    private static void tellingRun() {
        KeepForget k = new KeepForget();
        for (int i = 0; i < 24; i++) {
            for (int j = 0; j < 20; j++) {
                // "place any all s0;" and three blanks
                k.feed(0x706c6163, 0x6520616e, 0x7920616c, 0x6c207330, 0x3b202020);
            }
            k.rules(400, 0);
        }
    }

    private static void faultyRun() {
        KeepForget k = new KeepForget();
        for (int i = 0; i < 250; i++) {
            k.feed(0x706c6163, 0x6520616e, 0x7920616c, 0x6c207330, 0x20202020);
            k.rules(20, 0);
        }
    }
}
