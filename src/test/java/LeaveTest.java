/** Promises 27 to 29: what bars a load, leaving, how many. */
public final class LeaveTest {
    public static void main(String[] args) {
        oneByOne();
        planesAtFirst();
        homeByY();
        ofSeveralTheFirst();
        learners();
        limits();
        ranks();
        free();
        refused();
        leave();
        many();
        Due.end();
    }

    /** Two flat groups of one jumper each, in a load that nothing bars. */
    private static JumpDesk ready() {
        JumpDesk x = new JumpDesk();
        x.group(0, 9000, 0, 0);
        x.group(0, 9000, 0, 0);
        x.join(0, 0);
        x.join(1, 1);
        x.load(0);
        x.put(0, 0, 1);
        x.put(0, 1, 3);
        return x;
    }

    private static void oneByOne() {
        Due.part("promise 27");
        JumpDesk x = ready();
        Due.due("nothing", x.why(0, 1000), 0);
        x.group(0, 9000, 0, 0);
        x.put(0, 2, 5);
        Due.due("one without jumpers", x.why(0, 0), 2);
        x.join(2, 0);
        Due.due("one in two groups", x.why(0, 0), 6);
        x.plane(0, 3, 240, 400, 40000);
        Due.due("as many as seats, as much as it bears", x.why(0, 0), 6);
        x.plane(0, 3, 239, 400, 40000);
        Due.due("too heavy", x.why(0, 0), 4);
        x.plane(0, 2, 240, 400, 40000);
        Due.due("too many", x.why(0, 0), 3);
        x.plane(0, 3, 240, 400, 40000);
        x.jumper(0, 0, 80, 99);
        Due.due("gear up to its day", x.why(0, 99), 6);
        Due.due("gear behind its day", x.why(0, 100), 5);
        x.out(0, 2);
        x.start(0, 20000);
        Due.due("not home", x.why(0, 99), 11);
        x.start(0, 0);
        x.leave(0, 0);
        Due.due("left", x.why(0, 0), 1);
        x.load(2);
        Due.due("without groups", x.why(1, 0), 2);
    }

    private static void planesAtFirst() {
        Due.part("promise 27, planes at first");
        JumpDesk x = new JumpDesk();
        x.rule(1, 20000);
        for (int g = 0; g < 3; g++) {
            x.group(0, 9000, 0, 0);
        }
        x.load(1);
        for (int j = 0; j < 10; j++) {
            x.jumper(j, 0, 100, 1000);
            x.join(j / 4, j);
        }
        for (int g = 0; g < 3; g++) {
            x.put(0, g, 5);
        }
        Due.due("10 of 100", x.why(0, 0), 0);
        x.jumper(5, 0, 101, 1000);
        Due.due("1001 in weight", x.why(0, 0), 4);
        x.join(2, 20);
        Due.due("11 jumpers", x.why(0, 0), 3);
        x.group(0, 9000, 0, 0);
        x.out(0, 0);
        x.out(0, 0);
        x.out(0, 0);
        x.put(0, 3, 5);
        x.put(0, 0, 5);
        Due.due("the first one has no jumpers", x.why(0, 0), 2);
    }

    private static void homeByY() {
        Due.part("promise 27, home");
        JumpDesk x = ready();
        x.out(0, 1);
        x.rule(1, 1580);
        x.start(0, -397);
        x.wind(0, 0, 20);
        Due.due("80 seconds of 20 along y", x.where(0, 0, 1000, 1), 1580);
        Due.due("just home", x.why(0, 0), 0);
        x.start(0, -396);
        Due.due("one beside", x.why(0, 0), 11);
        x.start(0, -397);
        x.wind(0, 0, -20);
        Due.due("y below nought, home", x.why(0, 0), 0);
        x.rule(1, 1579);
        Due.due("y below nought, not home", x.why(0, 0), 11);
    }

    /** All that bars, at once; then taken away one by one. */
    private static void ofSeveralTheFirst() {
        Due.part("promise 27, the first of several");
        JumpDesk x = new JumpDesk();
        x.plane(0, 1, 100, 400, 40000);
        x.group(1, 9000, 0, 0);
        x.group(0, 9000, 0, 0);
        x.jumper(0, 1, 80, 4);
        x.join(0, 0);
        x.join(0, 1);
        x.load(0);
        x.put(0, 0, 1);
        x.put(0, 1, 1);
        x.start(0, 50000);
        x.wind(0, 142, 0);
        Due.due("2", x.why(0, 5), 2);
        x.join(1, 0);
        Due.due("3", x.why(0, 5), 3);
        x.plane(0, 3, 100, 400, 40000);
        Due.due("4", x.why(0, 5), 4);
        x.plane(0, 3, 240, 400, 40000);
        Due.due("5", x.why(0, 5), 5);
        Due.due("6", x.why(0, 4), 6);
        x.group(0, 9000, 0, 0);
        x.join(2, 2);
        x.out(0, 1);
        x.put(0, 2, 1);
        Due.due("7", x.why(0, 4), 7);
        x.jumper(0, 0, 80, 4);
        Due.due("8", x.why(0, 4), 8);
        x.wind(0, 141, 0);
        Due.due("9", x.why(0, 4), 9);
        x.rule(7, 0);
        Due.due("10", x.why(0, 4), 10);
        x.rule(0, 0);
        Due.due("11", x.why(0, 4), 11);
        x.start(0, x.spot(0, 0));
        Due.due("0", x.why(0, 4), 0);
    }

    private static void learners() {
        Due.part("promise 27, learners");
        JumpDesk x = new JumpDesk();
        x.rule(1, 20000);
        for (int kind = 0; kind < 4; kind++) {
            x.group(kind, 9000, 0, 0);
            x.join(kind, kind);
            x.join(kind, 4 + kind);
            x.load(0);
            x.put(kind, kind, 1);
            x.jumper(kind, 2, 80, 1000);
            Due.due("a helper and a plain one", x.why(kind, 0), 0);
            x.jumper(4 + kind, 1, 80, 1000);
            Due.due("a learner and a helper, kind " + kind, x.why(kind, 0), kind == 3 ? 0 : 7);
            x.jumper(kind, 0, 80, 1000);
            Due.due("a learner and a plain one", x.why(kind, 0), 7);
            x.jumper(kind, 1, 80, 1000);
            Due.due("two learners", x.why(kind, 0), 7);
        }
        x.join(3, 20);
        x.join(3, 21);
        x.jumper(20, 2, 80, 1000);
        Due.due("two learners, one helper", x.why(3, 0), 7);
        x.jumper(21, 2, 80, 1000);
        Due.due("two learners, two helpers", x.why(3, 0), 0);
        x.jumper(3, 2, 80, 1000);
        Due.due("more helpers", x.why(3, 0), 0);
        // A helper in another group of the load is none for this one.
        x.jumper(0, 2, 80, 1000);
        x.jumper(4, 2, 80, 1000);
        x.jumper(20, 1, 80, 1000);
        x.jumper(3, 1, 80, 1000);
        x.out(0, 0);
        x.put(3, 0, 60);
        Due.due("helpers elsewhere", x.why(3, 0), 7);
    }

    private static void limits() {
        Due.part("promise 27, limits");
        JumpDesk x = new JumpDesk();
        x.rule(1, 20000);
        x.wind(0, -30, 40);
        for (int kind = 0; kind < 4; kind++) {
            x.group(kind, 9000, 0, 0);
            x.join(kind, kind);
            x.load(0);
            x.put(kind, kind, 1);
            x.rule(2 + kind, 2500);
            Due.due("as much, kind " + kind, x.why(kind, 0), 0);
            x.rule(2 + kind, 2499);
            Due.due("more, kind " + kind, x.why(kind, 0), 8);
            x.rule(2 + kind, 180000);
            Due.due("less, kind " + kind, x.why(kind, 0), 0);
            x.rule(2 + kind, 0);
        }
        x.wind(0, 0, 0);
        x.wind(1, 100, 0);
        Due.due("another layer", x.why(0, 0), 0);
    }

    private static void ranks() {
        Due.part("promise 27, ranks");
        JumpDesk x = new JumpDesk();
        x.rule(1, 20000);
        x.rule(0, 0);
        for (int g = 0; g < 3; g++) {
            x.group(g == 1 ? 0 : 3, 9000, 0, 0);
            x.join(g, g);
        }
        x.load(0);
        x.put(0, 0, 1);
        Due.due("one alone", x.why(0, 0), 0);
        x.put(0, 1, 10);
        Due.due("flat behind high", x.why(0, 0), 9);
        x.rule(6, 3);
        Due.due("the same rank", x.why(0, 0), 0);
        x.rule(6, 2);
        x.put(0, 2, 10);
        Due.due("flat between", x.why(0, 0), 9);
        x.out(0, 0);
        Due.due("flat ahead", x.why(0, 0), 0);
        x.out(0, 0);
        x.put(0, 1, 5);
        Due.due("flat last", x.why(0, 0), 9);
    }

    private static void free() {
        Due.part("promise 27, free");
        JumpDesk x = ready();
        x.pause(0, 1, 2);
        Due.due("2 seconds", x.why(0, 0), 10);
        x.pause(0, 1, 3);
        x.rule(0, 1040);
        Due.due("just free", x.why(0, 0), 0);
        x.rule(0, 1041);
        Due.due("just not", x.why(0, 0), 10);
        x.group(0, 9000, 0, 0);
        x.join(2, 9);
        x.rule(0, 1000);
        x.put(0, 2, 2);
        Due.due("the second and the third are 2 seconds apart", x.why(0, 0), 10);
        outerOnes();
    }

    private static void outerOnes() {
        JumpDesk x = new JumpDesk();
        int[] kinds = {2, 2, 0};
        int[] directions = {0, 1, 0};
        int[] pauses = {1, 27, 20};
        for (int layer = 0; layer < 12; layer++) {
            x.wind(layer, 150, 0);
        }
        for (int kind = 0; kind < 4; kind++) {
            x.rule(2 + kind, 180000);
            x.rule(6 + kind, 0);
        }
        x.plane(0, 10, 1000, 200, 40000);
        x.load(0);
        for (int g = 0; g < 3; g++) {
            x.group(kinds[g], 9000, 150, directions[g]);
            x.join(g, g);
            x.put(0, g, pauses[g]);
        }
        x.rule(1, 20000);
        x.start(0, x.spot(0, 0));
        x.rule(0, 5000);
        Due.holds("neighbours are free", x.near(0, 0, 1) >= 25000000 && x.near(0, 1, 2) >= 25000000);
        Due.due("the outer ones are not", x.why(0, 0), 10);
        x.rule(0, 3635);
        Due.due("the outer ones are not, 3634.2", x.why(0, 0), 10);
        x.rule(0, 3634);
        Due.due("the outer ones are", x.why(0, 0), 0);
    }

    private static void refused() {
        Due.part("promises 27 and 28, refused");
        JumpDesk x = ready();
        int[][] bad = {{-1, 0}, {1, 0}, {0, -1}, {0, 1001}};
        for (int[] b : bad) {
            Due.due("why " + b[0] + " " + b[1], x.why(b[0], b[1]), JumpDesk.NUMBER);
            Due.due("leave " + b[0] + " " + b[1], x.leave(b[0], b[1]), JumpDesk.NUMBER);
        }
        Due.due("not left", x.in(0, 3), 0);
    }

    private static void leave() {
        Due.part("promise 28");
        JumpDesk x = ready();
        x.jumper(1, 0, 80, 7);
        Due.due("barred on that day", x.leave(0, 8), JumpDesk.STATE);
        Due.due("not left", x.in(0, 3), 0);
        Due.due("nobody up", x.many(3), 0);
        x.join(1, 5);
        Due.due("three jumpers", x.leave(0, 7), 3);
        Due.due("left", x.in(0, 3), 1);
        Due.due("left already", x.leave(0, 7), JumpDesk.STATE);
        Due.due("a day that is none ahead of that", x.leave(0, 1001), JumpDesk.NUMBER);
        x.load(0);
        Due.due("without groups", x.leave(1, 0), JumpDesk.STATE);
    }

    private static void many() {
        Due.part("promise 29");
        JumpDesk x = ready();
        x.load(1);
        x.load(2);
        int[] before = {2, 3, 0, 0};
        for (int what = 0; what < 4; what++) {
            Due.due("before " + what, x.many(what), before[what]);
        }
        x.leave(0, 0);
        int[] then = {2, 3, 1, 2};
        for (int what = 0; what < 4; what++) {
            Due.due("then " + what, x.many(what), then[what]);
        }
        x.put(1, 1, 5);
        x.leave(1, 0);
        int[] last = {2, 3, 2, 3};
        for (int what = 0; what < 4; what++) {
            Due.due("one went up twice, " + what, x.many(what), last[what]);
        }
        Due.due("what -1", x.many(-1), -1);
        Due.due("what 4", x.many(4), -1);
    }
}
