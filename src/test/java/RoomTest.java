import java.lang.management.ManagementFactory;

/** All calls live in one room: no call may take any of it. */
public final class RoomTest {
    private static final int OBJECTS = 40;
    private static final long MOST_BYTES_OF_AN_OBJECT = 6000;

    public static void main(String[] args) {
        com.sun.management.ThreadMXBean threads =
            (com.sun.management.ThreadMXBean) ManagementFactory.getThreadMXBean();
        long id = Thread.currentThread().getId();
        StileCounts[] made = new StileCounts[OBJECTS];
        char[] text = "s20,1,2;s30,3,1;s10,0,5;u0,2,1;k6;t0,1,5;t2,3,2;t0,2,1;".toCharArray();
        useAll(new StileCounts(), text);
        threads.getThreadAllocatedBytes(id);

        long before = threads.getThreadAllocatedBytes(id);
        for (int i = 0; i < OBJECTS; i++) {
            made[i] = new StileCounts();
        }
        long behind = threads.getThreadAllocatedBytes(id);
        long used = 0;
        for (int i = 0; i < OBJECTS; i++) {
            used += useAll(made[i], text);
        }
        long end = threads.getThreadAllocatedBytes(id);
        Due.is("bytes of an object: " + (behind - before) / OBJECTS,
            (behind - before) / OBJECTS <= MOST_BYTES_OF_AN_OBJECT);
        // A few bytes an object are left to the machine that measures.
        Due.is("bytes of all calls: " + (end - behind) + " " + used, end - behind <= 100L * OBJECTS);
        Due.end();
    }

    private static long useAll(StileCounts x, char[] text) {
        long sum = x.wipe();
        for (int i = 0; i < text.length; i++) {
            sum += x.write(text[i]);
        }
        sum += x.fault() + x.lay() + x.stretch(1, 0) + x.sort(1, 0) + x.cost(0) + x.tie(0, 1);
        for (int k = 0; k < 3; k++) {
            sum += x.walk() + x.count(0, 0) + x.told(0, 0) + x.odds(0, 0) + x.missing(1) + x.since() + x.judge();
            sum += x.backward(0) + x.decide(0) + x.again(0) + x.far(1) + x.plan(99, 0);
        }
        sum += x.two(true, 0) + x.groups(2, 0) + x.size(3) + x.answered(0, 0) + x.march(0) + x.schools(3, 4, 1);
        return sum + x.day(3, 1, 0) + x.keep() + x.undo() + x.back() + x.many(4);
    }
}
