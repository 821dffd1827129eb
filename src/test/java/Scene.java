/** A desk on which something of each sort stands, so that it can be seen when a refused call changes it. */
final class Scene {
    /** Not left, with groups 0 and 1. */
    static final int OPEN_LOAD = 0;
    /** Left, with group 3. */
    static final int LEFT_LOAD = 1;
    /** Not left, without groups. */
    static final int EMPTY_LOAD = 2;
    /** Four jumpers, 5 to 8, in no load. */
    static final int FULL_GROUP = 2;
    /** High, with jumpers 2 (a helper) and 3 (a learner). */
    static final int LEFT_GROUP = 3;
    /** Without jumpers, in no load. */
    static final int EMPTY_GROUP = 4;

    private Scene() {
    }

    static void make(JumpDesk x) {
        winds(x);
        groups(x);
        loads(x);
    }

    /** Sheet 0 has 3 numbers, sheet 1 has 20, sheet 2 is missing. */
    private static void winds(JumpDesk x) {
        x.sheet(0, 3);
        x.cell(0, 0, 5, 0);
        x.gap(0, 1);
        x.cell(0, 2, -27, 2);
        x.sheet(1, 20);
        x.cell(1, 0, 7, 0);
        x.gap(1, 18);
        x.cell(1, 19, 5, 1);
        x.wind(0, 11, -12);
        x.wind(5, 15, 16);
        x.wind(11, -13, 14);
    }

    private static void groups(JumpDesk x) {
        x.jumper(1, 0, 90, 500);
        x.jumper(2, 2, 70, 600);
        x.jumper(3, 1, 60, 700);
        x.group(0, 9000, 10, 0);
        x.group(1, 8000, 20, 1);
        x.group(2, 7000, 30, 2);
        x.group(3, 6000, 40, 3);
        x.group(0, 15000, 50, 0);
        x.join(0, 0);
        x.join(0, 1);
        x.join(1, 4);
        for (int j = 5; j <= 8; j++) {
            x.join(FULL_GROUP, j);
        }
        x.join(LEFT_GROUP, 2);
        x.join(LEFT_GROUP, 3);
    }

    private static void loads(JumpDesk x) {
        x.plane(1, 4, 600, 300, 20000);
        x.rule(0, 900);
        x.rule(1, 20000);
        x.load(0);
        x.put(OPEN_LOAD, 0, 5);
        x.put(OPEN_LOAD, 1, 20);
        x.start(OPEN_LOAD, -4000);
        x.load(1);
        x.put(LEFT_LOAD, LEFT_GROUP, 7);
        x.start(LEFT_LOAD, -3000);
        x.leave(LEFT_LOAD, 100);
        x.load(2);
    }
}
