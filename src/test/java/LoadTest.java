/** Promises 16 to 21: loads, and what is put into them. */
public final class LoadTest {
    public static void main(String[] args) {
        load();
        put();
        out();
        pause();
        start();
        in();
        leftOnesStay();
        Due.end();
    }

    private static JumpDesk withGroups(int n) {
        JumpDesk x = new JumpDesk();
        for (int g = 0; g < n; g++) {
            x.group(0, 9000, 0, 0);
            x.join(g, g);
        }
        x.rule(1, 20000);
        return x;
    }

    private static void load() {
        Due.part("promise 16");
        JumpDesk x = new JumpDesk();
        Due.due("p -1", x.load(-1), JumpDesk.NUMBER);
        Due.due("p 3", x.load(3), JumpDesk.NUMBER);
        Due.due("many", x.many(1), 0);
        for (int l = 0; l < 12; l++) {
            Due.due("load " + l, x.load(l % 3), l);
        }
        Due.due("full", x.load(0), JumpDesk.FULL);
        Due.due("number ahead of full", x.load(3), JumpDesk.NUMBER);
        Due.due("many", x.many(1), 12);
        Due.due("plane", x.in(11, 0), 2);
        Due.due("groups", x.in(11, 1), 0);
        Due.due("start", x.in(11, 2), 0);
        Due.due("left", x.in(11, 3), 0);
    }

    private static void put() {
        Due.part("promise 17");
        JumpDesk x = withGroups(8);
        Due.due("no load", x.put(0, 0, 1), JumpDesk.NUMBER);
        x.load(0);
        x.load(1);
        Due.due("l -1", x.put(-1, 0, 1), JumpDesk.NUMBER);
        Due.due("l 2", x.put(2, 0, 1), JumpDesk.NUMBER);
        Due.due("g -1", x.put(0, -1, 1), JumpDesk.NUMBER);
        Due.due("g 8", x.put(0, 8, 1), JumpDesk.NUMBER);
        Due.due("pause 0 of the first one", x.put(0, 0, 0), JumpDesk.NUMBER);
        Due.due("pause 61", x.put(0, 0, 61), JumpDesk.NUMBER);
        Due.due("first", x.put(0, 5, 60), 1);
        Due.due("twice here", x.put(0, 5, 1), JumpDesk.TWICE);
        Due.due("twice there", x.put(1, 5, 1), JumpDesk.TWICE);
        Due.due("pause ahead of twice", x.put(1, 5, 0), JumpDesk.NUMBER);
        for (int g = 0; g < 5; g++) {
            Due.due("group " + g, x.put(0, g, g + 1), g + 2);
        }
        Due.due("full", x.put(0, 6, 1), JumpDesk.FULL);
        Due.due("twice ahead of full", x.put(0, 4, 1), JumpDesk.TWICE);
        Due.due("count", x.in(0, 1), 6);
        Due.due("not in it", x.put(1, 6, 1), 1);
        Due.due("at the end", x.in(0, 15), 4);
        Due.due("its pause", x.in(0, 25), 5);
    }

    private static void out() {
        Due.part("promise 18");
        JumpDesk x = withGroups(4);
        Due.due("no load", x.out(0, 0), JumpDesk.NUMBER);
        x.load(0);
        Due.due("no group in it", x.out(0, 0), JumpDesk.NUMBER);
        for (int g = 0; g < 4; g++) {
            x.put(0, g, 10 + g);
        }
        Due.due("i -1", x.out(0, -1), JumpDesk.NUMBER);
        Due.due("i 4", x.out(0, 4), JumpDesk.NUMBER);
        Due.due("l 1", x.out(1, 0), JumpDesk.NUMBER);
        Due.due("from the middle", x.out(0, 1), 3);
        Due.due("group 1", x.in(0, 11), 2);
        Due.due("pause 1", x.in(0, 21), 12);
        Due.due("second 2", x.in(0, 32), 25);
        Due.due("the first one", x.out(0, 0), 2);
        Due.due("group 0", x.in(0, 10), 2);
        Due.due("pause 0", x.in(0, 20), 12);
        Due.due("second 1", x.in(0, 31), 13);
        Due.due("the last one", x.out(0, 1), 1);
        Due.due("group 1 is none", x.in(0, 11), -1);
        Due.due("free for a load again", x.put(0, 3, 1), 2);
    }

    private static void pause() {
        Due.part("promise 19");
        JumpDesk x = withGroups(3);
        Due.due("no load", x.pause(0, 0, 1), JumpDesk.NUMBER);
        x.load(0);
        x.put(0, 0, 10);
        x.put(0, 1, 20);
        Due.due("i -1", x.pause(0, -1, 5), JumpDesk.NUMBER);
        Due.due("i 2", x.pause(0, 2, 5), JumpDesk.NUMBER);
        Due.due("pause 0", x.pause(0, 1, 0), JumpDesk.NUMBER);
        Due.due("pause 61", x.pause(0, 1, 61), JumpDesk.NUMBER);
        Due.due("as it was", x.in(0, 21), 20);
        Due.due("pause 60", x.pause(0, 1, 60), 1);
        Due.due("pause 1 of the first", x.pause(0, 0, 1), 1);
        Due.due("now", x.in(0, 21), 60);
        Due.due("now", x.in(0, 20), 1);
        Due.due("second", x.in(0, 31), 60);
    }

    private static void start() {
        Due.part("promise 20");
        JumpDesk x = withGroups(1);
        Due.due("no load", x.start(0, 0), JumpDesk.NUMBER);
        x.load(0);
        Due.due("l -1", x.start(-1, 0), JumpDesk.NUMBER);
        Due.due("50001", x.start(0, 50001), JumpDesk.NUMBER);
        Due.due("-50001", x.start(0, -50001), JumpDesk.NUMBER);
        Due.due("as it was", x.in(0, 2), 0);
        Due.due("50000", x.start(0, 50000), 1);
        Due.due("now", x.in(0, 2), 50000);
        Due.due("-50000", x.start(0, -50000), 1);
        Due.due("now", x.in(0, 2), -50000);
        x.put(0, 0, 1);
        Due.due("from there", x.where(0, 0, 0, 0), -50000);
    }

    private static void in() {
        Due.part("promise 21");
        JumpDesk x = withGroups(7);
        x.load(2);
        x.start(0, -7);
        for (int i = 0; i < 6; i++) {
            x.put(0, 6 - i, 50 + i);
        }
        Due.due("plane", x.in(0, 0), 2);
        Due.due("count", x.in(0, 1), 6);
        Due.due("start", x.in(0, 2), -7);
        Due.due("left", x.in(0, 3), 0);
        int second = 0;
        for (int i = 0; i < 6; i++) {
            Due.due("group " + i, x.in(0, 10 + i), 6 - i);
            Due.due("pause " + i, x.in(0, 20 + i), 50 + i);
            second += i == 0 ? 0 : 50 + i;
            Due.due("second " + i, x.in(0, 30 + i), second);
        }
        for (int what : new int[] {-1, 4, 9, 16, 19, 26, 29, 36, 40, 50, 110, Integer.MIN_VALUE, Integer.MAX_VALUE}) {
            Due.due("what " + what, x.in(0, what), -1);
        }
        Due.due("l -1", x.in(-1, 0), -1);
        Due.due("l 1", x.in(1, 0), -1);
    }

    private static void leftOnesStay() {
        Due.part("promises 17 to 21, left");
        JumpDesk x = withGroups(3);
        x.load(1);
        x.put(0, 0, 1);
        x.put(0, 1, 9);
        Due.due("leave", x.leave(0, 0), 2);
        Due.due("put", x.put(0, 2, 1), JumpDesk.STATE);
        Due.due("put one in it", x.put(0, 1, 1), JumpDesk.STATE);
        Due.due("put, pause 61", x.put(0, 2, 61), JumpDesk.NUMBER);
        Due.due("out", x.out(0, 0), JumpDesk.STATE);
        Due.due("out, none such", x.out(0, 2), JumpDesk.NUMBER);
        Due.due("pause", x.pause(0, 1, 5), JumpDesk.STATE);
        Due.due("pause, none such", x.pause(0, 2, 5), JumpDesk.NUMBER);
        Due.due("pause 0", x.pause(0, 1, 0), JumpDesk.NUMBER);
        Due.due("start", x.start(0, 5), JumpDesk.STATE);
        Due.due("start 50001", x.start(0, 50001), JumpDesk.NUMBER);
        Due.due("count", x.in(0, 1), 2);
        Due.due("pause 1", x.in(0, 21), 9);
        Due.due("start", x.in(0, 2), 0);
        Due.due("left", x.in(0, 3), 1);
        x.load(0);
        Due.due("one that went up goes into another load", x.put(1, 0, 4), 1);
        Due.due("but not into two", x.put(1, 0, 4), JumpDesk.TWICE);
    }
}
