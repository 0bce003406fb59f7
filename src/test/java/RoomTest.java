import com.sun.management.ThreadMXBean;
import java.lang.management.ManagementFactory;

/** The room of a run: an object and its 512 dearest calls make little beyond what the constructor makes. */
public final class RoomTest {
    /** As many as the room has fields and elements; each of them has at least a byte. */
    private static final int MOST_BYTES = 7300000;
    private static final Check check = new Check();

    public static void main(String[] args) {
        ThreadMXBean bean = (ThreadMXBean) ManagementFactory.getThreadMXBean();
        long self = Thread.currentThread().getId();
        // The first time loads classes, which is not the program's own doing.
        for (int time = 0; time < 3; time++) {
            long before = bean.getThreadAllocatedBytes(self);
            dearSteps();
            dearDrafts();
            long made = bean.getThreadAllocatedBytes(self) - before;
            if (time > 0) {
                System.out.println("a run made " + made + " bytes");
                check.same("a run made " + made + " bytes", made < MOST_BYTES ? 1 : 0, 1);
            }
        }
        check.finish();
    }

    private static void dearSteps() {
        AllocationProfiler x = new AllocationProfiler();
        x.type(-1, 3, 3, 3, 3);
        Check.define(x, Check.NEW, 0, Check.ARRAY, 8, Check.PUSH, 1, Check.CALL, 0, Check.ADD, 0, Check.POP, 0,
                Check.GOTO, 0);
        x.weave(50);
        // 10 calls were made; each time round there are at most 7 more.
        for (int call = 10; call + 7 <= 512; call += 7) {
            for (int t = 0; t < 3; t++) {
                if (x.state(t) != 1) {
                    x.start(t, 0, 0);
                }
            }
            x.run(200);
        }
    }

    private static void dearDrafts() {
        AllocationProfiler x = new AllocationProfiler();
        for (int time = 0; time < 20; time++) {
            for (int i = 0; i < 24; i++) {
                x.draft(i == 0 ? Check.PUSH : i % 2 == 1 ? Check.IFZERO : i == 23 ? Check.GOTO : Check.PUSH, i % 3);
            }
            try {
                x.define();
            } catch (IllegalArgumentException e) {
                continue;
            }
        }
    }
}
