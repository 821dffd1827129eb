/** Great numbers: how far groups may be apart, how far from the field they come down, and how late that is. */
public final class FarEdges {
    private static final int NO_SPOT = -100001;

    public static void main(String[] args) {
        farApart();
        late();
        farAlongX();
        farAside();
        farthest();
        Due.end();
    }

    private static void blow(JumpDesk x, int alongX, int alongY) {
        for (int layer = 0; layer <= 11; layer++) {
            x.wind(layer, alongX, alongY);
        }
    }

    /** High groups in load 0, all with that pause, out of plane 0 with that speed, at 47000. */
    private static JumpDesk high(int groups, int pause, int speed, int forward) {
        JumpDesk x = new JumpDesk();
        x.plane(0, 20, 4000, speed, 47000);
        x.load(0);
        for (int g = 0; g < groups; g++) {
            x.group(3, 6000, forward, 0);
            x.join(g, g);
            x.put(0, g, pause);
        }
        return x;
    }

    private static void farApart() {
        Due.part("terms 3: near, squares of differences in x, y and height, as far apart as may be");
        JumpDesk x = high(6, 60, 600, 0);
        for (int i = 1; i < 6; i++) {
            // As the later one leaves, the first is 525 ahead of where it left, and 450 lower than by its canopy alone.
            long alongX = 36000L * i - 525;
            long lower = 3000L * i + 450;
            long due = alongX * alongX + lower * lower;
            Due.due("the first and the one at " + i, x.near(0, 0, i), due);
            Due.due("turned", x.near(0, i, 0), due);
        }
        Due.due("300 seconds", x.near(0, 0, 5), 179475L * 179475 + 15450L * 15450);
        x.pause(0, 5, 59);
        Due.due("299 seconds", x.near(0, 0, 5), 178875L * 178875 + 15400L * 15400);
        // The first one has had the wind for so many seconds more.
        blow(x, 10, -300);
        long alongX = 36000 - 525 - 600;
        Due.due("wind along y", x.near(0, 0, 1), alongX * alongX + 3450L * 3450 + 18000L * 18000);
        alongX = 4 * 36000 - 525 - 2400;
        Due.due("wind along y, 240 seconds", x.near(0, 0, 4), alongX * alongX + 12450L * 12450 + 72000L * 72000);
    }

    private static void late() {
        Due.part("terms 3: near, over all seconds: the nearest when both are low");
        for (int pause = 20; pause <= 60; pause += 20) {
            JumpDesk x = high(2, pause, 200, 0);
            x.wind(0, 150, 0);
            // In layer 0 the first one drifts for so many seconds more, till the other comes into it too.
            long alongX = 200L * pause - 150L * pause;
            long lower = 50L * pause;
            Due.due("seconds " + pause, x.near(0, 0, 1), alongX * alongX + lower * lower);
            x.wind(0, 0, 0);
            x.wind(1, 150, 0);
            Due.due("a layer higher", x.near(0, 0, 1), alongX * alongX + lower * lower);
        }
        Due.part("promise 22: t up to 1000");
        JumpDesk x = high(1, 1, 200, 0);
        x.wind(0, 1, -2);
        for (int t = 852; t <= 931; t++) {
            Due.due("x at " + t, x.where(0, 0, t, 0), 175 + t - 852);
            Due.due("y at " + t, x.where(0, 0, t, 1), -2 * (t - 852));
            Due.due("height at " + t, x.where(0, 0, t, 2), 50 * (931 - t));
            Due.due("at " + t, x.where(0, 0, t, 3), t == 931 ? 3 : 2);
        }
        for (int t = 931; t <= 1000; t++) {
            Due.due("x at " + t, x.where(0, 0, t, 0), 175 + 79);
            Due.due("down at " + t, x.where(0, 0, t, 3), 3);
        }
    }

    /** Of the starts that spot names, and the ones beside them, by what bars the load. */
    private static void ends(String what, JumpDesk x, int least, int greatest) {
        Due.due(what + ": least", x.spot(0, 0), least);
        Due.due(what + ": greatest", x.spot(0, 1), greatest);
        if (least == NO_SPOT) {
            return;
        }
        for (int start = least - 1; start <= greatest + 1; start += Math.max(1, (greatest - least) / 7)) {
            boolean may = x.start(0, start) == 1;
            boolean home = start >= least && start <= greatest;
            Due.due(what + ": from " + start, x.why(0, 0), may ? home ? 0 : 11 : x.why(0, 0));
        }
        x.start(0, Math.min(50000, greatest + 1));
        Due.due(what + ": behind the greatest", x.why(0, 0), greatest == 50000 ? 0 : 11);
    }

    private static JumpDesk blown(int alongX, int alongY, int field, int forward) {
        JumpDesk x = high(1, 1, 400, forward);
        blow(x, alongX, alongY);
        x.rule(1, field);
        x.rule(5, 180000);
        return x;
    }

    private static void farAlongX() {
        Due.part("promise 26: far along x");
        // 931 seconds of wind, a throw of 350, open for 928 seconds.
        ends("100 a second", blown(100, 0, 3000, 70), -50000, -93450 + 3000 + 64960);
        ends("-100 a second", blown(-100, 0, 3000, 70), 92750 - 3000 - 64960, 50000);
        ends("200 a second", blown(200, 0, 20000, 150), -50000, -186550 + 20000 + 139200);
        ends("-200 a second", blown(-200, 0, 20000, 150), 185850 - 20000 - 139200, 50000);
        ends("the first start alone", blown(100, 0, 19322, 26), -50000, -50000);
        ends("one too far", blown(100, 0, 19321, 26), NO_SPOT, NO_SPOT);
        ends("the last start alone", blown(-100, 0, 18622, 26), 50000, 50000);
        ends("one too far", blown(-100, 0, 18621, 26), NO_SPOT, NO_SPOT);
        ends("300 a second", blown(300, 0, 20000, 150), NO_SPOT, NO_SPOT);
        ends("-300 a second", blown(-300, 0, 20000, 150), NO_SPOT, NO_SPOT);
    }

    private static int root(long square) {
        int root = 0;
        while ((root + 1L) * (root + 1L) <= square) {
            root++;
        }
        return root;
    }

    private static void farAside() {
        Due.part("terms 3: home, the squares of x and y together, far aside");
        for (int side = -1; side <= 1; side += 2) {
            for (int wind : new int[] {50, 100, 150, 160, 165, 170}) {
                long y = 931L * wind;
                int room = root(159200L * 159200 - y * y);
                ends("y " + side * y, blown(0, side * wind, 20000, 150), Math.max(-50000, -350 - room),
                    Math.min(50000, -350 + room));
            }
            ends("159201, one more than it reaches", blown(0, side * 171, 20000, 150), NO_SPOT, NO_SPOT);
            ends("200 a second", blown(0, side * 200, 20000, 150), NO_SPOT, NO_SPOT);
            ends("300 a second", blown(0, side * 300, 20000, 150), NO_SPOT, NO_SPOT);
        }
    }

    private static void farthest() {
        Due.part("terms 1 and 3: as far as may be");
        JumpDesk x = high(6, 60, 600, 0);
        blow(x, 300, 300);
        x.start(0, 50000);
        Due.due("x", x.where(0, 5, 1000, 0), 50000 + 180000 + 525 + 931 * 300);
        Due.due("y", x.where(0, 5, 1000, 1), 931 * 300);
        blow(x, -300, -300);
        x.start(0, -50000);
        Due.due("x", x.where(0, 0, 1000, 0), -50000 + 525 - 931 * 300);
        Due.due("y", x.where(0, 0, 1000, 1), -931 * 300);
        x.rule(5, 180000);
        Due.due("not home", x.why(0, 0), 11);
        Due.due("from no start", x.spot(0, 0), NO_SPOT);
    }
}
