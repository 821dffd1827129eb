import java.lang.management.ManagementFactory;

/**
 * All calls of a run live in one room (../shared/LANGUAGE.md, rule 12, and the README): a desk and its 512 calls,
 * whichever these are, take far less.
 */
public final class RoomTest {
    private static final int CALLS = 512;
    /** 7.3 million bytes hold neither 600,000 objects nor more than 7.3 million fields and elements. */
    private static final long ROOM = 7_300_000;

    private interface Call {
        long on(JumpDesk x, int n);
    }

    private static final Call[] DEAR = {
        (x, n) -> x.order(0),
        (x, n) -> x.spot(0, n % 2),
        (x, n) -> x.why(0, n),
        (x, n) -> x.leave(0, 1001 - n),
        (x, n) -> x.near(0, n % 6, 5 - n % 6),
        (x, n) -> x.between(n % 3, n % 6, (n + 1) % 6),
        (x, n) -> x.where(0, n % 6, n, n % 4),
        (x, n) -> x.sheet(n % 3, 20),
        (x, n) -> x.winds(0, 1),
        (x, n) -> x.told(0, n % 20),
        (x, n) -> n % 2 == 0 ? x.out(0, 0) : x.put(0, n / 2 % 6, 9),
        (x, n) -> x.group(n % 4, 9000, 0, 0),
        (x, n) -> x.load(n % 3),
        (x, n) -> x.join(n % 6, n % 32)
    };

    public static void main(String[] args) {
        Due.part("room");
        if (!(ManagementFactory.getThreadMXBean() instanceof com.sun.management.ThreadMXBean)) {
            System.out.println("this machine doesn't tell what a run takes");
            return;
        }
        for (int dear = 0; dear < DEAR.length; dear++) {
            long taken = taken(DEAR[dear]);
            Due.holds("call " + dear + " takes " + taken, taken < ROOM);
        }
        Due.end();
    }

    private static long bytes() {
        return ((com.sun.management.ThreadMXBean) ManagementFactory.getThreadMXBean()).getCurrentThreadAllocatedBytes();
    }

    private static long taken(Call call) {
        long before = bytes();
        JumpDesk x = new JumpDesk();
        fill(x);
        for (int n = 0; n < CALLS - 60; n++) {
            call.on(x, n);
        }
        return bytes() - before;
    }

    /** Some 60 calls: sheets, and a load of six groups that lie far apart. */
    private static void fill(JumpDesk x) {
        x.sheet(0, 20);
        x.sheet(1, 20);
        x.gap(0, 3);
        x.rule(0, 5000);
        x.rule(1, 20000);
        x.plane(0, 20, 4000, 200, 47000);
        for (int kind = 0; kind < 4; kind++) {
            x.rule(6 + kind, 1);
        }
        x.load(0);
        for (int g = 0; g < 6; g++) {
            x.group(g % 4, 6000 + 100 * g, 10, g % 4);
            x.join(g, g);
            x.put(0, g, 60);
        }
    }
}
