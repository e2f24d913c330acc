import java.lang.management.ManagementFactory;

/** All calls of a run live in one room: an object stays small, and its calls make nothing at all. */
public final class RoomTest {
    private static final Check CHECK = new Check();
    private static final com.sun.management.ThreadMXBean THREADS =
        (com.sun.management.ThreadMXBean) ManagementFactory.getThreadMXBean();
    private static long answers = 0;

    public static void main(String[] args) {
        // The least of several tries: the Java machine itself makes something now and then.
        long object = Long.MAX_VALUE;
        long calls = Long.MAX_VALUE;
        for (int i = 0; i < 20; i++) {
            long[] made = useBoth();
            object = Math.min(object, made[0]);
            calls = Math.min(calls, made[1]);
        }
        CHECK.due("bytes of an object: " + object, object < 20_000);
        // Looking makes a little itself; one object of sixteen bytes in each call would be far more.
        CHECK.due("bytes made by its calls: " + calls, calls < 256);
        CHECK.due("answers", answers != 0);
        CHECK.finish();
    }

    private static long[] useBoth() {
        long start = made();
        AimDesk desk = new AimDesk();
        long object = made();
        use(desk);
        return new long[] {object - start, made() - object};
    }

    private static long made() {
        return THREADS.getThreadAllocatedBytes(Thread.currentThread().getId());
    }

    private static void use(AimDesk desk) {
        String text = "4;9,9;7,1;5,3;3,2;1,9";
        for (int i = 0; i < text.length(); i++) {
            answers += desk.letter(text.charAt(i));
        }
        answers += desk.fault() + desk.field();
        for (int i = 0; i < 46; i++) {
            answers += desk.aim(i % 5, i % 4) + desk.ceiling(i % 4, 15 + i % 7);
            answers += desk.shade(i % 32) + desk.stuck(i % 5, i % 3 == 0);
            answers += desk.best(false, 0) + desk.change(true, 10) + desk.go(false);
            answers += desk.trade(0) + desk.relief() + desk.digest();
        }
        for (int i = 0; i < 9; i++) {
            answers += desk.count(i) + desk.mirror(0, i % 6);
        }
    }
}
