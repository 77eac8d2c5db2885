import java.lang.management.ManagementFactory;

/** The dearest calls make nothing that stays in the room; a new object makes little. */
public final class RoomTest {
    private static final long MOST_OF_ONE = 60_000;
    private static final long MOST_OF_CALLS = 500_000;

    public static void main(String[] args) {
        Check check = new Check("RoomTest");
        if (ManagementFactory.getThreadMXBean() instanceof com.sun.management.ThreadMXBean bean) {
            run(check, bean);
        } else {
            check.due("nothing can be measured here", 0, 0);
        }
        check.end();
    }

    private static void run(Check check, com.sun.management.ThreadMXBean bean) {
        String text = "la40f1;lf2;lf3;lf4;lf5k1;lf6k2;lf7;lf0;w;wa1b2;wa2b3;wa3b4;wa4b5";
        String law = "y:[a*s+k]/[o+1]>y&!(s<a/2|n=3)?[s*3-k]/4;y:a/10+[[s]]";
        Mill.of(text, law).path(0, 5, 1);
        long start = bean.getCurrentThreadAllocatedBytes();
        BlackMill mill = new BlackMill();
        check.due("a new object", bean.getCurrentThreadAllocatedBytes() - start < MOST_OF_ONE, true);
        Mill.tell(mill, 0, text);
        Mill.tell(mill, 1, law);
        mill.law(0);
        start = bean.getCurrentThreadAllocatedBytes();
        for (int i = 0; i < 40; i++) {
            mill.winters(1, i);
            mill.path(i % 8, 5, i % 2);
            mill.holds(i % 8);
            mill.tells(i % 8);
            mill.rests(i % 8, (i + 1) % 8, 3);
            mill.best(3);
            mill.dare();
            mill.fault(1);
            mill.image();
            mill.back();
            mill.safe(i % 8);
            mill.come(i % 8);
        }
        check.due("480 calls", bean.getCurrentThreadAllocatedBytes() - start < MOST_OF_CALLS, true);
    }
}
