/** Promises 22 to 26: where groups are, how near two come, pauses, orders, spots. */
public final class FlightTest {
    public static void main(String[] args) {
        flat();
        fastTrackHigh();
        tracks();
        layers();
        down();
        whereRefused();
        near();
        nearAlongY();
        nearBeyond();
        between();
        betweenNone();
        order();
        orderByRanks();
        orderOfNone();
        spot();
        spotOfSeveral();
        asTheyWereThen();
        Due.end();
    }

    /** One group of that kind, alone in load 0, with a jumper. */
    private static JumpDesk alone(int kind, int opens, int forward, int direction) {
        JumpDesk x = new JumpDesk();
        x.group(kind, opens, forward, direction);
        x.join(0, 0);
        x.load(0);
        x.put(0, 0, 30);
        return x;
    }

    private static void place(JumpDesk x, int t, int... due) {
        for (int what = 0; what < due.length; what++) {
            Due.due("at " + t + " what " + what, x.where(0, 0, t, what), due[what]);
        }
    }

    private static void flat() {
        Due.part("promise 22, flat");
        JumpDesk x = alone(0, 9000, 0, 0);
        x.start(0, 1000);
        place(x, 0, 1000, 0, 40000, 1);
        place(x, 1, 1200, 0, 39900, 1);
        place(x, 2, 1300, 0, 39700, 1);
        place(x, 3, 1350, 0, 39400, 1);
        place(x, 4, 1375, 0, 39000, 1);
        place(x, 5, 1387, 0, 38500, 1);
        place(x, 6, 1393, 0, 38000, 1);
        place(x, 9, 1397, 0, 36500, 1);
        place(x, 63, 1397, 0, 9500, 1);
        place(x, 64, 1397, 0, 9000, 2);
        place(x, 65, 1397, 0, 8950, 2);
        place(x, 243, 1397, 0, 50, 2);
        place(x, 244, 1397, 0, 0, 3);
        place(x, 1000, 1397, 0, 0, 3);
        JumpDesk lower = alone(0, 8999, 0, 0);
        place(lower, 64, 397, 0, 9000, 1);
        place(lower, 65, 397, 0, 8500, 2);
        JumpDesk early = alone(0, 15000, 0, 0);
        early.plane(0, 10, 1000, 600, 15000);
        place(early, 0, 0, 0, 15000, 1);
        place(early, 1, 300, 0, 14900, 2);
        place(early, 2, 300, 0, 14850, 2);
    }

    private static void fastTrackHigh() {
        Due.part("promise 22, kinds");
        JumpDesk fast = alone(1, 9000, 0, 0);
        place(fast, 5, 387, 0, 38500, 1);
        place(fast, 6, 393, 0, 37900, 1);
        place(fast, 7, 396, 0, 37300, 1);
        place(fast, 54, 397, 0, 9100, 1);
        place(fast, 55, 397, 0, 8500, 2);
        JumpDesk track = alone(2, 9000, 0, 1);
        place(track, 4, 375, 0, 39000, 1);
        place(track, 5, 387, 0, 38550, 1);
        place(track, 6, 393, 80, 38100, 1);
        JumpDesk high = alone(3, 9000, 0, 0);
        place(high, 2, 300, 0, 39700, 1);
        place(high, 3, 350, 0, 39400, 2);
        place(high, 4, 350, 0, 39350, 2);
        place(high, 790, 350, 0, 50, 2);
        place(high, 791, 350, 0, 0, 3);
        JumpDesk low = alone(3, 15000, 0, 0);
        low.plane(0, 10, 1000, 400, 15000);
        place(low, 1, 200, 0, 14900, 2);
        JumpDesk longest = alone(3, 6000, 0, 0);
        longest.plane(0, 10, 1000, 400, 47000);
        place(longest, 930, 350, 0, 50, 2);
        place(longest, 931, 350, 0, 0, 3);
    }

    private static void tracks() {
        Due.part("promise 22, tracks");
        int[][] due = {{80, 0}, {0, 80}, {-80, 0}, {0, -80}};
        for (int direction = 0; direction < 4; direction++) {
            JumpDesk x = alone(2, 9000, 0, direction);
            place(x, 5, 387, 0);
            place(x, 6, 393 + due[direction][0], due[direction][1]);
            place(x, 20, 397 + 15 * due[direction][0], 15 * due[direction][1]);
            int falls = 5;
            while (x.where(0, 0, falls, 3) == 1) {
                falls++;
            }
            place(x, 1000, 397 + (falls - 5) * due[direction][0], (falls - 5) * due[direction][1]);
            JumpDesk flat = alone(0, 9000, 0, direction);
            place(flat, 20, 397, 0);
        }
    }

    private static void layers() {
        Due.part("promise 22, layers");
        JumpDesk x = alone(0, 9000, 0, 0);
        x.wind(10, 7, -3);
        place(x, 1, 207, -3);
        place(x, 2, 307, -3);
        x.wind(10, 0, 0);
        x.wind(9, 7, -3);
        place(x, 1, 200, 0);
        place(x, 2, 307, -3);
        // Heights ahead of 39900, 39700, 39400, 39000, 38500, 38000, .. 36000.
        place(x, 10, 397 + 9 * 7, -27);
        place(x, 11, 397 + 10 * 7, -30);
        place(x, 12, 397 + 10 * 7, -30);
        x.wind(9, 0, 0);
        x.wind(2, -20, 11);
        // Falls in layer 2 from 11500 to 9000, then open down to 8000.
        place(x, 59, 397, 0, 11500);
        place(x, 64, 297, 55, 9000, 2);
        place(x, 65, 277, 66);
        place(x, 85, 397 - 26 * 20, 26 * 11, 7950);
        place(x, 86, 397 - 26 * 20, 26 * 11, 7900);
        x.wind(2, 0, 0);
        x.wind(0, 5, 1);
        place(x, 1000, 397 + 79 * 5, 79, 0, 3);
        x.wind(11, 300, 300);
        x.plane(0, 10, 1000, 400, 44000);
        place(x, 1, 500, 300, 43900);
    }

    private static void down() {
        Due.part("promise 22, down");
        JumpDesk x = alone(0, 6000, 0, 0);
        x.plane(0, 10, 1000, 400, 15010);
        place(x, 20, 397, 0, 6010, 1);
        place(x, 21, 397, 0, 5510, 2);
        place(x, 131, 397, 0, 10, 2);
        place(x, 132, 397, 0, 0, 3);
        x.wind(0, 10, 0);
        place(x, 131, 397 + 79 * 10);
        place(x, 132, 397 + 80 * 10);
        place(x, 133, 397 + 80 * 10);
    }

    private static void whereRefused() {
        Due.part("promise 22, refused");
        JumpDesk x = alone(0, 9000, 0, 0);
        int none = -1000000;
        Due.due("l -1", x.where(-1, 0, 0, 0), none);
        Due.due("l 1", x.where(1, 0, 0, 0), none);
        Due.due("i -1", x.where(0, -1, 0, 0), none);
        Due.due("i 1", x.where(0, 1, 0, 0), none);
        Due.due("t -1", x.where(0, 0, -1, 0), none);
        Due.due("t 1001", x.where(0, 0, 1001, 0), none);
        Due.due("what -1", x.where(0, 0, 0, -1), none);
        Due.due("what 4", x.where(0, 0, 0, 4), none);
    }

    private static JumpDesk three() {
        JumpDesk x = new JumpDesk();
        for (int g = 0; g < 3; g++) {
            x.group(0, 6000, 0, 0);
            x.join(g, g);
        }
        x.load(0);
        x.put(0, 0, 50);
        x.put(0, 1, 3);
        x.put(0, 2, 5);
        return x;
    }

    private static void near() {
        Due.part("promise 23");
        JumpDesk x = three();
        // As the second leaves, the first is at x 350 and 600 lower; then they only come apart.
        Due.due("3 seconds", x.near(0, 0, 1), 850L * 850 + 600 * 600);
        Due.due("the other way about", x.near(0, 1, 0), 850L * 850 + 600 * 600);
        // Under canopies they are 5 times 400 and 5 times 50 apart.
        Due.due("5 seconds", x.near(0, 1, 2), 2000L * 2000 + 250 * 250);
        Due.due("8 seconds", x.near(0, 0, 2), 3200L * 3200 + 400 * 400);
        x.start(0, 9000);
        Due.due("start counts nothing", x.near(0, 0, 1), 850L * 850 + 600 * 600);
        x.pause(0, 1, 1);
        Due.due("1 second: as the second leaves", x.near(0, 0, 1), 200L * 200 + 100 * 100);
        Due.due("l 1", x.near(1, 0, 1), JumpDesk.NUMBER);
        Due.due("l -1", x.near(-1, 0, 1), JumpDesk.NUMBER);
        Due.due("i -1", x.near(0, -1, 1), JumpDesk.NUMBER);
        Due.due("i 3", x.near(0, 3, 1), JumpDesk.NUMBER);
        Due.due("j -1", x.near(0, 1, -1), JumpDesk.NUMBER);
        Due.due("j 3", x.near(0, 1, 3), JumpDesk.NUMBER);
        Due.due("the same", x.near(0, 1, 1), JumpDesk.NUMBER);
    }

    /** Both track the same way along y, 30 seconds behind one another. */
    private static void nearAlongY() {
        Due.part("promise 23, y");
        JumpDesk x = new JumpDesk();
        x.group(2, 6000, 0, 1);
        x.group(2, 6000, 0, 1);
        x.load(0);
        x.put(0, 0, 1);
        x.put(0, 1, 30);
        x.wind(0, 0, 100);
        x.wind(1, 0, 100);
        // Under canopies the first is 30 times 400 behind, 30 times 50 lower, and 30 seconds longer in the wind.
        Due.due("wind", x.near(0, 0, 1), 12000L * 12000 + 1500 * 1500 + 3000 * 3000);
        x.wind(1, 0, 0);
        x.wind(0, 0, 0);
        Due.due("no wind", x.near(0, 0, 1), 12000L * 12000 + 1500 * 1500);
        x.group(2, 6000, 0, 3);
        x.out(0, 1);
        x.put(0, 2, 30);
        int track = x.where(0, 0, 1000, 1);
        Due.due("the other way", x.where(0, 1, 1000, 1), -track);
        Due.holds("farther apart by twice that under canopies, so nearest is earlier",
            x.near(0, 0, 1) > 12000L * 12000 + 1500 * 1500 && x.near(0, 0, 1) <= 12000L * 12000 + 4L * track * track + 1500 * 1500);
    }

    private static void nearBeyond() {
        Due.part("promise 23, beyond");
        JumpDesk x = new JumpDesk();
        for (int g = 0; g < 4; g++) {
            x.group(1, 6000, 0, 0);
            x.join(g, g);
        }
        x.load(0);
        x.plane(0, 10, 1000, 400, 15000);
        x.put(0, 0, 60);
        x.put(0, 1, 60);
        x.put(0, 2, 60);
        x.put(0, 3, 12);
        Due.due("open", x.where(0, 0, 18, 3), 2);
        Due.due("ahead of down", x.where(0, 0, 131, 3), 2);
        Due.due("down", x.where(0, 0, 132, 3), 3);
        Due.due("down as it leaves", x.near(0, 0, 3), JumpDesk.BEYOND);
        Due.due("two that are apart by less", x.near(0, 2, 3), 4800L * 4800 + 600 * 600);
        x.pause(0, 3, 11);
        long apart = 131L * 400 - 397;
        Due.due("a second less", x.near(0, 0, 3), apart * apart + 14950L * 14950);
        x.pause(0, 3, 60);
        Due.due("long down", x.near(0, 3, 0), JumpDesk.BEYOND);
        x.rule(0, 5000);
        x.rule(1, 20000);
        x.start(0, -35000);
        Due.due("beyond is free", x.why(0, 0), 11);
    }

    private static void between() {
        Due.part("promise 24");
        JumpDesk x = three();
        Due.due("3 times 400 and 50", x.between(0, 0, 1), 3);
        x.rule(0, 1040);
        Due.due("as the second leaves they are nearer: 1040.4", x.between(0, 0, 1), 3);
        x.rule(0, 1041);
        Due.due("1041", x.between(0, 0, 1), 4);
        x.rule(0, 0);
        Due.due("free 0", x.between(0, 0, 1), 1);
        x.rule(0, 5000);
        Due.due("free 5000", x.between(0, 0, 1), 13);
        Due.due("another plane", x.between(2, 1, 2), 13);
        x.plane(2, 10, 1000, 200, 40000);
        Due.due("a slower plane", x.between(2, 1, 2), 25);
        Due.due("p -1", x.between(-1, 0, 1), JumpDesk.NUMBER);
        Due.due("p 3", x.between(3, 0, 1), JumpDesk.NUMBER);
        Due.due("g -1", x.between(0, -1, 1), JumpDesk.NUMBER);
        Due.due("g 3", x.between(0, 3, 1), JumpDesk.NUMBER);
        Due.due("h -1", x.between(0, 1, -1), JumpDesk.NUMBER);
        Due.due("h 3", x.between(0, 1, 3), JumpDesk.NUMBER);
        Due.due("the same", x.between(0, 1, 1), JumpDesk.NUMBER);
    }

    /** The wind carries the open ones as fast as the slow plane flies. */
    private static JumpDesk carried() {
        JumpDesk x = new JumpDesk();
        for (int layer = 0; layer < 12; layer++) {
            x.wind(layer, 200, 0);
        }
        x.plane(0, 10, 1000, 200, 40000);
        x.group(3, 9000, 0, 0);
        x.group(3, 9000, 0, 0);
        x.group(0, 9000, 0, 0);
        x.load(0);
        x.put(0, 1, 7);
        x.put(0, 0, 8);
        return x;
    }

    private static void betweenNone() {
        Due.part("promise 24, none");
        JumpDesk x = carried();
        x.rule(0, 3600);
        // Behind 60 seconds the first one is 600 and 57 times 50 lower, and 175 ahead (its throw).
        Due.due("3454.4 at most", x.between(0, 0, 1), JumpDesk.NONE);
        x.rule(0, 3000);
        Due.due("3000 apart in height", x.between(0, 0, 1), 60);
        x.rule(0, 3001);
        Due.due("then they are 50 times 60 apart", x.between(0, 0, 1), JumpDesk.NONE);
        x.rule(0, 2950);
        Due.due("2950", x.between(0, 0, 1), 59);
        x.rule(0, 2951);
        Due.due("2951", x.between(0, 0, 1), 60);
    }

    private static void order() {
        Due.part("promise 25");
        JumpDesk x = three();
        x.rule(0, 5000);
        Due.due("sum", x.order(0), 26);
        for (int i = 0; i < 3; i++) {
            Due.due("group " + i, x.in(0, 10 + i), i);
            Due.due("pause " + i, x.in(0, 20 + i), i == 0 ? 1 : 13);
        }
        Due.due("no load", x.order(1), JumpDesk.NUMBER);
        Due.due("l -1", x.order(-1), JumpDesk.NUMBER);
        x.load(1);
        Due.due("no groups", x.order(1), JumpDesk.NONE);
        x.group(1, 6000, 0, 0);
        x.put(1, 3, 44);
        Due.due("one group", x.order(1), 0);
        Due.due("its pause", x.in(1, 20), 1);
        shortestOfAll();
        unlikeInTheMiddle();
        lastOfAll();
    }

    /** Groups that are unlike and lie the wrong way round, ranks that all allow: by the betweens themselves. */
    private static void shortestOfAll() {
        JumpDesk x = new JumpDesk();
        for (int layer = 0; layer < 12; layer++) {
            x.wind(layer, 15 * layer, 40 - 9 * layer);
        }
        for (int rank = 6; rank < 10; rank++) {
            x.rule(rank, 2);
        }
        x.rule(0, 2500);
        x.group(3, 9000, 0, 0);
        x.group(2, 12000, 0, 2);
        x.group(1, 7000, 0, 0);
        x.group(0, 9900, 0, 0);
        x.load(0);
        for (int g = 3; g >= 0; g--) {
            x.put(0, g, 1);
        }
        int best = Integer.MAX_VALUE;
        int[] due = new int[4];
        for (int n = 0; n < 256; n++) {
            int[] row = {n >> 6, n >> 4 & 3, n >> 2 & 3, n & 3};
            boolean each = (1 << row[0] | 1 << row[1] | 1 << row[2] | 1 << row[3]) == 15;
            if (each && sum(x, row) < best) {
                best = sum(x, row);
                due = row;
            }
        }
        Due.due("sum", x.order(0), best);
        int second = 0;
        for (int i = 0; i < 4; i++) {
            Due.due("group " + i, x.in(0, 10 + i), due[i]);
            second += i == 0 ? 0 : x.between(0, due[i - 1], due[i]);
            Due.due("second " + i, x.in(0, 30 + i), second);
        }
    }

    private static int sum(JumpDesk x, int[] row) {
        int sum = 0;
        for (int i = 1; i < row.length; i++) {
            int pause = x.between(0, row[i - 1], row[i]);
            sum += pause < 0 ? 1000 : pause;
        }
        return sum;
    }

    /** Free 0: all orders have the same sum; ranks keep group 4 (flat) ahead. */
    private static void unlikeInTheMiddle() {
        JumpDesk x = new JumpDesk();
        x.rule(0, 0);
        for (int g = 0; g < 4; g++) {
            x.group(1, 9000, 0, 0);
        }
        x.group(0, 9000, 0, 0);
        x.load(0);
        for (int g : new int[] {2, 0, 4, 3, 1}) {
            x.put(0, g, 9);
        }
        Due.due("sum", x.order(0), 4);
        int[] due = {4, 0, 1, 2, 3};
        for (int i = 0; i < 5; i++) {
            Due.due("group " + i, x.in(0, 10 + i), due[i]);
            Due.due("pause " + i, x.in(0, 20 + i), 1);
        }
    }

    /** Of all 720 orders the last one, by number, is the shortest that ranks allow. */
    private static void lastOfAll() {
        JumpDesk x = new JumpDesk();
        for (int layer = 0; layer < 12; layer++) {
            x.wind(layer, 152, 0);
        }
        x.rule(0, 3300);
        x.group(2, 14000, 0, 0);
        x.group(2, 11000, 0, 2);
        x.group(3, 9000, 0, 0);
        x.group(1, 9000, 0, 0);
        x.group(0, 12000, 0, 0);
        x.group(0, 11000, 0, 0);
        x.rule(8, 3);
        x.rule(9, 2);
        x.load(0);
        for (int g = 0; g < 6; g++) {
            x.put(0, g, 1);
        }
        int best = sum(x, new int[] {5, 4, 3, 2, 1, 0});
        Due.holds("4 ahead of 5 is longer", sum(x, new int[] {4, 5, 3, 2, 1, 0}) > best);
        Due.holds("0 ahead of 1 is longer", sum(x, new int[] {5, 4, 3, 2, 0, 1}) > best);
        Due.holds("both are longer", sum(x, new int[] {4, 5, 3, 2, 0, 1}) > best);
        Due.due("sum", x.order(0), best);
        for (int i = 0; i < 6; i++) {
            Due.due("group " + i, x.in(0, 10 + i), 5 - i);
        }
    }

    private static void orderByRanks() {
        Due.part("promise 25, ranks");
        JumpDesk x = new JumpDesk();
        for (int kind = 3; kind >= 0; kind--) {
            x.group(kind, 9000, 0, 0);
        }
        x.load(0);
        for (int g = 0; g < 4; g++) {
            x.put(0, g, 10);
        }
        Due.holds("there is one", x.order(0) > 0);
        for (int i = 0; i < 4; i++) {
            Due.due("by kind " + i, x.in(0, 10 + i), 3 - i);
        }
        x.rule(6, 3);
        x.rule(7, 2);
        x.rule(8, 1);
        x.rule(9, 0);
        Due.holds("there is one", x.order(0) > 0);
        for (int i = 0; i < 4; i++) {
            Due.due("by turned ranks " + i, x.in(0, 10 + i), i);
        }
    }

    private static void orderOfNone() {
        Due.part("promise 25, none");
        JumpDesk x = carried();
        x.rule(0, 3600);
        Due.due("two with none between", x.order(0), JumpDesk.NONE);
        Due.due("as it was", x.in(0, 10), 1);
        Due.due("as it was", x.in(0, 21), 8);
        x.put(0, 2, 9);
        Due.due("flat has to be first", x.order(0), JumpDesk.NONE);
        x.rule(6, 3);
        x.rule(9, 3);
        boolean onBothSides = x.between(0, 0, 2) > 0 && x.between(0, 2, 1) > 0;
        Due.due("flat may be between", x.order(0) > 0 ? 1 : 0, onBothSides ? 1 : 0);
        x.rule(0, 1000);
        x.rule(1, 20000);
        x.rule(2, 180000);
        x.rule(5, 180000);
        x.load(1);
        x.group(0, 9000, 0, 0);
        x.join(3, 0);
        x.put(1, 3, 5);
        x.start(1, x.spot(1, 0));
        Due.due("leave", x.leave(1, 0), 1);
        Due.due("left", x.order(1), JumpDesk.STATE);
        Due.due("as it was", x.in(1, 20), 5);
    }

    private static void spot() {
        Due.part("promise 26");
        JumpDesk x = alone(0, 6000, 10, 0);
        x.plane(0, 10, 1000, 400, 15010);
        x.rule(1, 0);
        // Open from 5510 on: 111 seconds, so 1110 to each side of x 397.
        Due.due("least", x.spot(0, 0), -1110 - 397);
        Due.due("greatest", x.spot(0, 1), 1110 - 397);
        x.start(0, 20000);
        Due.due("its own start counts nothing", x.spot(0, 0), -1110 - 397);
        x.rule(1, 90);
        Due.due("field too", x.spot(0, 0), -1200 - 397);
        x.start(0, -1200 - 397);
        Due.due("home", x.why(0, 0), 0);
        x.start(0, -1201 - 397);
        Due.due("not home", x.why(0, 0), 11);
        x.rule(1, 0);
        x.wind(0, 0, 13);
        x.rule(1, 0);
        // 80 seconds in layer 0: y 1040, and the root of 1110 times 1110 less 1040 times 1040 is 387.9.
        Due.due("least, by y", x.spot(0, 0), -387 - 397);
        Due.due("greatest, by y", x.spot(0, 1), 387 - 397);
        x.wind(0, 0, -13);
        Due.due("y below nought", x.spot(0, 0), -387 - 397);
        x.wind(0, 0, 14);
        Due.due("y 1120", x.spot(0, 0), -100001);
        Due.due("y 1120", x.spot(0, 1), -100001);
        x.rule(1, 10);
        Due.due("y 1120, just home", x.spot(0, 0), -397);
        Due.due("y 1120, just home", x.spot(0, 1), -397);
        Due.due("what 2", x.spot(0, 2), -100002);
        Due.due("what -1", x.spot(0, -1), -100002);
        Due.due("l 1", x.spot(1, 0), -100002);
        Due.due("l -1", x.spot(-1, 0), -100002);
        x.load(0);
        Due.due("without groups", x.spot(1, 0), -50000);
        Due.due("without groups", x.spot(1, 1), 50000);
    }

    private static void spotOfSeveral() {
        Due.part("promise 26, several");
        JumpDesk x = three();
        x.rule(1, 5000);
        // The first comes down at 397, the last 8 seconds further on.
        Due.due("least, by the first", x.spot(0, 0), -5000 - 397);
        Due.due("greatest, by the last", x.spot(0, 1), 5000 - 397 - 3200);
        x.rule(1, 1600);
        Due.due("one alone", x.spot(0, 0), -1997);
        Due.due("one alone", x.spot(0, 1), -1997);
        x.rule(1, 1599);
        Due.due("none", x.spot(0, 0), -100001);
        Due.due("none", x.spot(0, 1), -100001);
        JumpDesk wide = alone(3, 6000, 150, 0);
        Due.due("the least there is", wide.spot(0, 0), -50000);
        Due.due("the greatest there is", wide.spot(0, 1), 50000);
        farSpot();
    }

    /** The wind carries it 50000 and more: the first start that brings it home lies at the end of all. */
    private static void farSpot() {
        JumpDesk x = alone(3, 6000, 0, 0);
        for (int layer = 0; layer < 12; layer++) {
            x.wind(layer, 70, 0);
        }
        x.rule(1, 5720);
        Due.due("791 times 70 and 350", x.where(0, 0, 1000, 0), 55720);
        Due.due("just", x.spot(0, 0), -50000);
        Due.due("just", x.spot(0, 1), -50000);
        x.rule(1, 5719);
        Due.due("not", x.spot(0, 0), -100001);
    }

    private static void asTheyWereThen() {
        Due.part("promises 22, 23 and 26, left");
        JumpDesk x = three();
        x.rule(1, 20000);
        x.wind(0, 10, 20);
        x.pause(0, 1, 5);
        int home = x.where(0, 2, 1000, 0);
        int homeY = x.where(0, 2, 1000, 1);
        long near = x.near(0, 0, 1);
        int least = x.spot(0, 0);
        int most = x.spot(0, 1);
        Due.due("leave", x.leave(0, 0), 3);
        x.wind(0, -50, 0);
        x.wind(9, 80, 80);
        x.plane(0, 1, 100, 600, 15000);
        Due.due("x", x.where(0, 2, 1000, 0), home);
        Due.due("y", x.where(0, 2, 1000, 1), homeY);
        Due.due("height", x.where(0, 2, 0, 2), 40000);
        Due.due("x as it leaves", x.where(0, 1, 0, 0), 2000);
        Due.due("near", x.near(0, 0, 1), near);
        Due.due("least", x.spot(0, 0), least);
        Due.due("greatest", x.spot(0, 1), most);
        Due.due("plane", x.in(0, 0), 0);
        x.rule(1, 19000);
        Due.holds("the field is the one of now", x.spot(0, 0) > least);
        x.load(0);
        x.put(1, 2, 1);
        Due.due("another load by what is now", x.where(1, 0, 0, 2), 15000);
        Due.due("another load by what is now", x.where(1, 0, 1, 0), 300);
        anotherPlaneThen();
    }

    private static void anotherPlaneThen() {
        JumpDesk x = new JumpDesk();
        x.rule(1, 20000);
        x.group(0, 9000, 0, 0);
        x.join(0, 0);
        x.plane(2, 3, 300, 300, 30000);
        x.wind(7, 9, 8);
        x.load(2);
        x.put(0, 0, 1);
        Due.due("leave", x.leave(0, 0), 1);
        x.plane(2, 10, 1000, 400, 40000);
        x.wind(7, 0, 0);
        Due.due("plane", x.in(0, 0), 2);
        Due.due("x", x.where(0, 0, 1, 0), 159);
        Due.due("y", x.where(0, 0, 1, 1), 8);
        Due.due("height", x.where(0, 0, 0, 2), 30000);
    }
}
