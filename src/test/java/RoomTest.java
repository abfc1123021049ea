import java.lang.management.ManagementFactory;

/** All calls of a run live in one room, so the dear ones may make next to nothing. */
public final class RoomTest {
    private static final int CALLS = 432;
    private static final long MOST_BYTES_OF_NEW = 16_000, MOST_BYTES_OF_CALLS = 64_000;

    public static void main(String[] args) {
        com.sun.management.ThreadMXBean bean =
            (com.sun.management.ThreadMXBean) ManagementFactory.getThreadMXBean();
        run(filled());
        long start = bean.getCurrentThreadAllocatedBytes();
        MightHaveBeenPutUp x = filled();
        long made = bean.getCurrentThreadAllocatedBytes();
        run(x);
        long end = bean.getCurrentThreadAllocatedBytes();
        Check.due("a new object's bytes " + (made - start), made - start <= MOST_BYTES_OF_NEW ? 1 : 0, 1);
        Check.due("the calls' bytes " + (end - made), end - made <= MOST_BYTES_OF_CALLS ? 1 : 0, 1);
        Check.end("RoomTest");
    }

    private static MightHaveBeenPutUp filled() {
        MightHaveBeenPutUp x = new MightHaveBeenPutUp();
        Check.text(x, "holds 60+year*0;fades 1*1;costs paid+high;");
        x.force(1);
        for (int one = 0; one < 5; one++) {
            x.regret(one, 3, 90);
            x.raise(one, 1, 8 + one);
            x.raise(one, 4, 16 + one);
        }
        return x;
    }

    private static void run(MightHaveBeenPutUp x) {
        x.film(0, 1, 20);
        for (int i = 0; i < CALLS / 16; i++) {
            x.add(i % 5, 20, 0);
            x.tells(0, 1, 1 + i % 6);
            x.chance(i, 20, 2, 0);
            x.reach(63);
            x.key(0);
            x.drawn(i, 40);
            x.run(0, 40, 0);
            x.later(40);
            x.walk(0, 7);
            x.image();
            x.back();
            x.sheet(1, i % 3, 40);
            x.film(2, 0, 20);
            x.feed('h');
            x.text();
            x.bag(1, 0, 0, 5);
        }
    }
}
