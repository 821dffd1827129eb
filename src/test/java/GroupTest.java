/** Promises 10 to 15: jumpers, groups, planes, rules. */
public final class GroupTest {
    public static void main(String[] args) {
        jumper();
        group();
        join();
        joinToOneThatLeft();
        of();
        plane();
        rule();
        Due.end();
    }

    private static void jumper() {
        Due.part("promise 10");
        JumpDesk x = new JumpDesk();
        Due.due("j -1", x.jumper(-1, 0, 80, 0), JumpDesk.NUMBER);
        Due.due("j 32", x.jumper(32, 0, 80, 0), JumpDesk.NUMBER);
        Due.due("j 31", x.jumper(31, 2, 200, 1000), 1);
        Due.due("j 0", x.jumper(0, 0, 40, 0), 1);
        x.group(0, 9000, 0, 0);
        x.join(0, 0);
        x.join(0, 31);
        x.join(0, 5);
        Due.due("40, 200 and the 80 of the first", x.of(0, 5), 320);
        Due.due("sort 3", x.jumper(0, 3, 100, 9), JumpDesk.NUMBER);
        Due.due("sort -1", x.jumper(0, -1, 100, 9), JumpDesk.NUMBER);
        Due.due("weight 39", x.jumper(0, 1, 39, 9), JumpDesk.NUMBER);
        Due.due("weight 201", x.jumper(0, 1, 201, 9), JumpDesk.NUMBER);
        Due.due("day -1", x.jumper(0, 1, 100, -1), JumpDesk.NUMBER);
        Due.due("day 1001", x.jumper(0, 1, 100, 1001), JumpDesk.NUMBER);
        Due.due("refused: as it was", x.of(0, 5), 320);
        x.load(0);
        x.put(0, 0, 1);
        x.rule(1, 20000);
        Due.due("day 0", x.why(0, 0), 0);
        Due.due("day 1", x.why(0, 1), 5);
        x.jumper(0, 1, 90, 500);
        Due.due("a learner, a helper, but flat", x.why(0, 500), 7);
        Due.due("other weight", x.of(0, 5), 370);
    }

    private static void group() {
        Due.part("promise 11");
        JumpDesk x = new JumpDesk();
        Due.due("kind -1", x.group(-1, 9000, 0, 0), JumpDesk.NUMBER);
        Due.due("kind 4", x.group(4, 9000, 0, 0), JumpDesk.NUMBER);
        Due.due("opens 5999", x.group(0, 5999, 0, 0), JumpDesk.NUMBER);
        Due.due("opens 15001", x.group(0, 15001, 0, 0), JumpDesk.NUMBER);
        Due.due("forward -1", x.group(0, 9000, -1, 0), JumpDesk.NUMBER);
        Due.due("forward 151", x.group(0, 9000, 151, 0), JumpDesk.NUMBER);
        Due.due("direction -1", x.group(0, 9000, 0, -1), JumpDesk.NUMBER);
        Due.due("direction 4", x.group(0, 9000, 0, 4), JumpDesk.NUMBER);
        Due.due("many", x.many(0), 0);
        Due.due("least", x.group(0, 6000, 0, 0), 0);
        Due.due("most", x.group(3, 15000, 150, 3), 1);
        for (int g = 2; g < 20; g++) {
            Due.due("group " + g, x.group(1, 9000, 5, 0), g);
        }
        Due.due("full", x.group(1, 9000, 5, 0), JumpDesk.FULL);
        Due.due("number ahead of full", x.group(4, 9000, 5, 0), JumpDesk.NUMBER);
        Due.due("many", x.many(0), 20);
        Due.due("no jumpers", x.of(19, 4), 0);
    }

    private static void join() {
        Due.part("promise 12");
        JumpDesk x = new JumpDesk();
        Due.due("no group", x.join(0, 0), JumpDesk.NUMBER);
        x.group(0, 9000, 0, 0);
        x.group(0, 9000, 0, 0);
        Due.due("g -1", x.join(-1, 0), JumpDesk.NUMBER);
        Due.due("g 2", x.join(2, 0), JumpDesk.NUMBER);
        Due.due("j -1", x.join(0, -1), JumpDesk.NUMBER);
        Due.due("j 32", x.join(0, 32), JumpDesk.NUMBER);
        Due.due("first", x.join(0, 31), 1);
        Due.due("twice", x.join(0, 31), JumpDesk.TWICE);
        Due.due("in another group too", x.join(1, 31), 1);
        Due.due("second", x.join(0, 0), 2);
        Due.due("third", x.join(0, 7), 3);
        Due.due("fourth", x.join(0, 8), 4);
        Due.due("full", x.join(0, 9), JumpDesk.FULL);
        Due.due("twice ahead of full", x.join(0, 7), JumpDesk.TWICE);
        Due.due("count", x.of(0, 4), 4);
    }

    private static void joinToOneThatLeft() {
        Due.part("promise 12, left");
        JumpDesk x = new JumpDesk();
        x.rule(1, 20000);
        x.group(0, 9000, 0, 0);
        x.join(0, 1);
        x.load(0);
        x.put(0, 0, 1);
        Due.due("in a load that has not left", x.join(0, 2), 2);
        Due.due("leave", x.leave(0, 0), 2);
        Due.due("left", x.join(0, 3), JumpDesk.STATE);
        Due.due("left ahead of twice", x.join(0, 1), JumpDesk.STATE);
        Due.due("number ahead of left", x.join(0, 32), JumpDesk.NUMBER);
        x.load(0);
        x.put(1, 0, 1);
        Due.due("left, though in another that has not", x.join(0, 3), JumpDesk.STATE);
        Due.due("count", x.of(0, 4), 2);
    }

    private static void of() {
        Due.part("promise 13");
        JumpDesk x = new JumpDesk();
        x.group(2, 7001, 83, 3);
        x.jumper(30, 0, 101, 0);
        x.join(0, 30);
        x.join(0, 4);
        int[] due = {2, 7001, 83, 3, 2, 181, -1, -1, -1, -1, 30, 4, -1, -1, -1};
        for (int what = 0; what < due.length; what++) {
            Due.due("of " + what, x.of(0, what), due[what]);
        }
        Due.due("what -1", x.of(0, -1), -1);
        Due.due("what least", x.of(0, Integer.MIN_VALUE), -1);
        Due.due("what most", x.of(0, Integer.MAX_VALUE), -1);
        Due.due("g -1", x.of(-1, 0), -1);
        Due.due("g 1", x.of(1, 0), -1);
        x.group(0, 6000, 0, 0);
        Due.due("weight of none", x.of(1, 5), 0);
        Due.due("jumper 0 of none", x.of(1, 10), -1);
    }

    private static void plane() {
        Due.part("promise 14");
        JumpDesk x = new JumpDesk();
        Due.due("p -1", x.plane(-1, 10, 1000, 400, 40000), JumpDesk.NUMBER);
        Due.due("p 3", x.plane(3, 10, 1000, 400, 40000), JumpDesk.NUMBER);
        Due.due("least", x.plane(0, 1, 100, 200, 15000), 1);
        Due.due("most", x.plane(2, 20, 4000, 600, 47000), 1);
        int[][] bad = {{0, 1000, 400, 40000}, {21, 1000, 400, 40000}, {10, 99, 400, 40000}, {10, 4001, 400, 40000},
            {10, 1000, 199, 40000}, {10, 1000, 601, 40000}, {10, 1000, 400, 14999}, {10, 1000, 400, 47001}};
        for (int[] b : bad) {
            Due.due("bad", x.plane(2, b[0], b[1], b[2], b[3]), JumpDesk.NUMBER);
        }
        x.group(0, 9000, 0, 0);
        x.group(0, 9000, 0, 0);
        for (int p = 0; p < 3; p++) {
            x.load(p);
        }
        x.put(0, 0, 1);
        x.put(0, 1, 10);
        Due.due("height of plane 0", x.where(0, 0, 0, 2), 15000);
        Due.due("speed of plane 0", x.where(0, 1, 0, 0), 2000);
        x.out(0, 0);
        x.put(2, 0, 1);
        Due.due("height of plane 2", x.where(2, 0, 0, 2), 47000);
        Due.due("speed of plane 2", x.where(2, 0, 1, 0), 300);
        x.out(2, 0);
        x.put(1, 0, 1);
        Due.due("height of plane 1 at first", x.where(1, 0, 0, 2), 40000);
        Due.due("speed of plane 1 at first", x.where(1, 0, 1, 0), 200);
    }

    private static void rule() {
        Due.part("promise 15");
        JumpDesk x = new JumpDesk();
        int[] first = {1000, 3000, 20000, 20000, 20000, 20000, 0, 1, 2, 3};
        int[] most = {5000, 20000, 180000, 180000, 180000, 180000, 3, 3, 3, 3};
        for (int what = 0; what < 10; what++) {
            Due.due("too much, " + what, x.rule(what, most[what] + 1), JumpDesk.NUMBER);
            Due.due("below nought, " + what, x.rule(what, -1), JumpDesk.NUMBER);
            Due.due("at first, " + what, x.rule(what, most[what]), first[what]);
            Due.due("then, " + what, x.rule(what, 0), most[what]);
            Due.due("then, " + what, x.rule(what, 1), 0);
        }
        for (int what = 0; what < 10; what++) {
            Due.due("by itself, " + what, x.rule(what, 1), 1);
        }
        Due.due("what 10", x.rule(10, 0), JumpDesk.NUMBER);
        Due.due("what -1", x.rule(-1, 0), JumpDesk.NUMBER);
    }
}
