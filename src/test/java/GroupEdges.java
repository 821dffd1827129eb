/** The boundary cases of promises 10 to 15, sentence by sentence of the document. */
public final class GroupEdges {
    public static void main(String[] args) {
        jumperRefused();
        jumperTaken();
        jumpersAtFirst();
        groupRefused();
        groupTaken();
        groupsAreFull();
        joinRefused();
        joinIsFull();
        joinFirstNamed();
        of();
        planeRefused();
        planeTaken();
        planesAtFirst();
        rules();
        Due.end();
    }

    /** Jumper j alone in group 0 (high), which is alone in load 0 of plane 0; only its gear and its sort may bar it. */
    private static void alone(JumpDesk x, int j) {
        x.group(3, 9000, 0, 0);
        x.join(0, j);
        x.load(0);
        x.put(0, 0, 1);
        x.rule(1, 20000);
        x.start(0, x.spot(0, 0));
    }

    private static Edge.Made alone(int j) {
        return x -> alone(x, j);
    }

    private static void jumperRefused() {
        Due.part("promise 10: there is none such");
        Edge.outside("jumper", Scene::make, (x, j) -> x.jumper(j, 1, 100, 300), 0, 31, JumpDesk.NUMBER);
        Due.part("promise 10: sort isn't 0 to 2");
        Edge.outside("sort", Scene::make, (x, sort) -> x.jumper(1, sort, 100, 300), 0, 2, JumpDesk.NUMBER);
        Due.part("promise 10: weight not 40 to 200");
        Edge.outside("weight", Scene::make, (x, weight) -> x.jumper(1, 1, weight, 300), 40, 200, JumpDesk.NUMBER);
        Due.part("promise 10: day not 0 to 1000");
        Edge.outside("day", Scene::make, (x, day) -> x.jumper(1, 1, 100, day), 0, 1000, JumpDesk.NUMBER);
    }

    private static void jumperTaken() {
        Due.part("promise 10: jumpers 0 to 31");
        for (int j : new int[] {0, 31}) {
            Edge.done("jumper " + j, alone(j), x -> x.jumper(j, 0, 91, 7), 1, x -> x.of(0, 5), 91);
            Edge.done("another than " + j, alone(31 - j), x -> x.jumper(j, 0, 91, 7), 1, x -> x.of(0, 5), 80);
        }
        Due.part("promise 10: sort 0 to 2");
        Edge.done("sort 0", alone(5), x -> x.jumper(5, 0, 80, 9), 1, x -> x.why(0, 0), 0);
        Edge.done("sort 1: a learner", alone(5), x -> x.jumper(5, 1, 80, 9), 1, x -> x.why(0, 0), 7);
        Edge.done("sort 2: a helper", alone(5), x -> x.jumper(5, 2, 80, 9), 1, x -> x.why(0, 0), 0);
        Edge.done("a helper for a learner", alone(5), x -> x.jumper(5, 2, 80, 9), 1, x -> {
            x.jumper(6, 1, 80, 9);
            x.join(0, 6);
            return x.why(0, 0);
        }, 0);
        Edge.done("sort 0 is none for a learner", alone(5), x -> x.jumper(5, 0, 80, 9), 1, x -> {
            x.jumper(6, 1, 80, 9);
            x.join(0, 6);
            return x.why(0, 0);
        }, 7);
        Due.part("promise 10: weight 40 to 200");
        Edge.inside("weight", alone(5), (x, weight) -> x.jumper(5, 0, weight, 9), 40, 200, 1, x -> x.of(0, 5));
        Due.part("promise 10: day 0 to 1000");
        Edge.done("day 0, on day 0", alone(5), x -> x.jumper(5, 0, 80, 0), 1, x -> x.why(0, 0), 0);
        Edge.done("day 0, on day 1", alone(5), x -> x.jumper(5, 0, 80, 0), 1, x -> x.why(0, 1), 5);
        Edge.done("day 999, on day 1000", alone(5), x -> x.jumper(5, 0, 80, 999), 1, x -> x.why(0, 1000), 5);
        Edge.done("day 1000, on day 1000", alone(5), x -> x.jumper(5, 0, 80, 1000), 1, x -> x.why(0, 1000), 0);
    }

    private static void jumpersAtFirst() {
        Due.part("terms 2: a jumper is plain, weighs 80, and has gear up to day 1000 at first");
        for (int j = 0; j <= 31; j++) {
            JumpDesk x = new JumpDesk();
            alone(x, j);
            Due.due("weight of " + j, x.of(0, 5), 80);
            Due.due("no learner, gear good on day 1000: " + j, x.why(0, 1000), 0);
            x.jumper((j + 1) % 32, 1, 80, 1000);
            x.join(0, (j + 1) % 32);
            Due.due("no helper: " + j, x.why(0, 0), 7);
        }
    }

    private static void groupRefused() {
        Due.part("promise 11: kind isn't 0 to 3");
        Edge.outside("kind", Scene::make, (x, kind) -> x.group(kind, 9000, 0, 0), 0, 3, JumpDesk.NUMBER);
        Due.part("promise 11: opens not 6000 to 15000");
        Edge.outside("opens", Scene::make, (x, opens) -> x.group(0, opens, 0, 0), 6000, 15000, JumpDesk.NUMBER);
        Due.part("promise 11: forward not 0 to 150");
        Edge.outside("forward", Scene::make, (x, forward) -> x.group(0, 9000, forward, 0), 0, 150, JumpDesk.NUMBER);
        Due.part("promise 11: direction not 0 to 3");
        Edge.outside("direction", Scene::make, (x, way) -> x.group(2, 9000, 0, way), 0, 3, JumpDesk.NUMBER);
        Edge.outside("direction of a flat one", Scene::make, (x, way) -> x.group(0, 9000, 0, way), 0, 3, JumpDesk.NUMBER);
    }

    private static void groupTaken() {
        Due.part("promise 11: a group comes, its number");
        Edge.inside("kind", Scene::make, (x, kind) -> x.group(kind, 9000, 0, 0), 0, 3, 5, x -> x.of(5, 0));
        Edge.inside("opens", Scene::make, (x, opens) -> x.group(0, opens, 0, 0), 6000, 15000, 5, x -> x.of(5, 1));
        Edge.inside("forward", Scene::make, (x, forward) -> x.group(0, 9000, forward, 0), 0, 150, 5, x -> x.of(5, 2));
        Edge.inside("direction", Scene::make, (x, way) -> x.group(1, 9000, 0, way), 0, 3, 5, x -> x.of(5, 3));
        Edge.done("without jumpers", Scene::make, x -> x.group(1, 9000, 0, 0), 5, x -> x.of(5, 4), 0);
        Edge.done("the first one", x -> { }, x -> x.group(1, 9000, 0, 0), 0, x -> x.many(0), 1);
    }

    private static Edge.Made groups(int count) {
        return x -> {
            for (int g = 0; g < count; g++) {
                x.group(g % 4, 9000, g, 0);
            }
        };
    }

    private static void groupsAreFull() {
        Due.part("promise 11: FULL");
        Edge.done("the last that may be", groups(19), x -> x.group(1, 7000, 3, 2), 19, x -> x.of(19, 1), 7000);
        Edge.still("one more", groups(20), x -> x.group(1, 7000, 3, 2), JumpDesk.FULL);
        Edge.still("20 there are", groups(20), x -> x.many(0), 20);
        Edge.still("no group 20", groups(20), x -> x.of(20, 0), -1);
        Due.part("promise 11: of several refusals the first one named");
        Edge.still("kind 4, full", groups(20), x -> x.group(4, 7000, 3, 2), JumpDesk.NUMBER);
        Edge.still("opens 5999, full", groups(20), x -> x.group(1, 5999, 3, 2), JumpDesk.NUMBER);
        Edge.still("forward 151, full", groups(20), x -> x.group(1, 7000, 151, 2), JumpDesk.NUMBER);
        Edge.still("direction -1, full", groups(20), x -> x.group(1, 7000, 3, -1), JumpDesk.NUMBER);
    }

    private static void joinRefused() {
        Due.part("promise 12: there is no such group");
        Edge.outside("group", Scene::make, (x, g) -> x.join(g, 20), 0, 4, JumpDesk.NUMBER);
        Edge.still("none at all", x -> { }, x -> x.join(0, 0), JumpDesk.NUMBER);
        Edge.done("the first", Scene::make, x -> x.join(0, 20), 3, x -> x.of(0, 12), 20);
        Edge.done("the last", Scene::make, x -> x.join(4, 20), 1, x -> x.of(4, 10), 20);
        Due.part("promise 12: there is no such jumper");
        Edge.outside("jumper", Scene::make, (x, j) -> x.join(1, j), 0, 31, JumpDesk.NUMBER);
        Edge.inside("jumper", Scene::make, (x, j) -> x.join(1, j), 0, 31, 2, x -> x.of(1, 11));
        Due.part("promise 12: STATE, the group is in a load that has left");
        Edge.still("left", Scene::make, x -> x.join(Scene.LEFT_GROUP, 20), JumpDesk.STATE);
        Edge.still("left, and in one that has not", GroupEdges::leftAndPut, x -> x.join(Scene.LEFT_GROUP, 20), JumpDesk.STATE);
        Edge.done("in one that has not left", Scene::make, x -> x.join(0, 20), 3, x -> x.of(0, 4), 3);
        Edge.done("in none", Scene::make, x -> x.join(Scene.EMPTY_GROUP, 20), 1, x -> x.of(4, 4), 1);
        Due.part("promise 12: TWICE, it is in it already");
        Edge.still("its first", Scene::make, x -> x.join(0, 0), JumpDesk.TWICE);
        Edge.still("its last", Scene::make, x -> x.join(0, 1), JumpDesk.TWICE);
        Edge.done("in another only", Scene::make, x -> x.join(1, 0), 2, x -> x.of(1, 11), 0);
        Edge.done("in one that has left only", Scene::make, x -> x.join(1, 2), 2, x -> x.of(1, 11), 2);
    }

    private static void leftAndPut(JumpDesk x) {
        Scene.make(x);
        x.put(Scene.EMPTY_LOAD, Scene.LEFT_GROUP, 9);
    }

    private static void joinIsFull() {
        Due.part("promise 12: FULL, it has 4");
        Edge.Made three = x -> {
            Scene.make(x);
            x.join(0, 30);
        };
        Edge.done("the fourth", three, x -> x.join(0, 29), 4, x -> x.of(0, 13), 29);
        Edge.still("the fifth", Scene::make, x -> x.join(Scene.FULL_GROUP, 30), JumpDesk.FULL);
        Edge.done("how many, from none on", Scene::make, x -> x.join(4, 9), 1, x -> x.join(4, 10), 2);
    }

    private static void joinFirstNamed() {
        Due.part("promise 12: of several refusals the first one named");
        Edge.still("no such jumper, left", Scene::make, x -> x.join(Scene.LEFT_GROUP, 32), JumpDesk.NUMBER);
        Edge.still("no such jumper, full", Scene::make, x -> x.join(Scene.FULL_GROUP, -1), JumpDesk.NUMBER);
        Edge.still("left, twice", Scene::make, x -> x.join(Scene.LEFT_GROUP, 2), JumpDesk.STATE);
        Edge.Made fullOneLeft = x -> {
            Scene.make(x);
            x.put(Scene.EMPTY_LOAD, Scene.FULL_GROUP, 1);
            x.start(Scene.EMPTY_LOAD, x.spot(Scene.EMPTY_LOAD, 0));
            x.leave(Scene.EMPTY_LOAD, 0);
        };
        Edge.still("it left", fullOneLeft, x -> x.many(2), 2);
        Edge.still("left, full", fullOneLeft, x -> x.join(Scene.FULL_GROUP, 30), JumpDesk.STATE);
        Edge.still("left, twice, full", fullOneLeft, x -> x.join(Scene.FULL_GROUP, 5), JumpDesk.STATE);
        Edge.still("twice, full: the first", Scene::make, x -> x.join(Scene.FULL_GROUP, 5), JumpDesk.TWICE);
        Edge.still("twice, full: the last", Scene::make, x -> x.join(Scene.FULL_GROUP, 8), JumpDesk.TWICE);
    }

    private static void of() {
        Due.part("promise 13: -1, there is none such");
        Edge.outside("group, kind", Scene::make, (x, g) -> x.of(g, 0), 0, 4, -1);
        Edge.outside("group, jumpers", Scene::make, (x, g) -> x.of(g, 4), 0, 4, -1);
        Edge.outside("group, jumper 0", Scene::make, (x, g) -> x.of(g, 10), 0, 4, -1);
        Edge.still("none at all", x -> { }, x -> x.of(0, 5), -1);
        Edge.outside("jumper, of 2", Scene::make, (x, what) -> x.of(0, what), 0, 11, -1);
        Edge.outside("jumper, of 4", Scene::make, (x, what) -> x.of(Scene.FULL_GROUP, what), 0, 13, -1);
        Edge.still("jumper 0 of none", Scene::make, x -> x.of(Scene.EMPTY_GROUP, 10), -1);
        Edge.still("the last of 4", Scene::make, x -> x.of(Scene.FULL_GROUP, 13), 8);
        Edge.still("the last of 2", Scene::make, x -> x.of(0, 11), 1);
        Due.part("promise 13: -1, another what");
        for (int what : new int[] {6, 7, 8, 9}) {
            Edge.still("what " + what, Scene::make, x -> x.of(Scene.FULL_GROUP, what), -1);
        }
        Due.part("promise 13: of a group");
        int[] due = {2, 7000, 30, 2, 4, 320};
        for (int what = 0; what < due.length; what++) {
            int at = what;
            Edge.still("what " + what, Scene::make, x -> x.of(Scene.FULL_GROUP, at), due[what]);
        }
        Edge.still("the first group", Scene::make, x -> x.of(0, 5), 170);
        Edge.still("the last group", Scene::make, x -> x.of(4, 1), 15000);
        Edge.still("the weight of none", Scene::make, x -> x.of(4, 5), 0);
    }

    private static void planeRefused() {
        Due.part("promise 14: there is none such");
        Edge.outside("plane", Scene::make, (x, p) -> x.plane(p, 5, 500, 300, 20000), 0, 2, JumpDesk.NUMBER);
        Due.part("promise 14: a number isn't as told");
        for (int p = 0; p <= 2; p++) {
            int at = p;
            Edge.outside("seats", Scene::make, (x, v) -> x.plane(at, v, 500, 350, 21000), 1, 20, JumpDesk.NUMBER);
            Edge.outside("bears", Scene::make, (x, v) -> x.plane(at, 5, v, 350, 21000), 100, 4000, JumpDesk.NUMBER);
            Edge.outside("speed", Scene::make, (x, v) -> x.plane(at, 5, 500, v, 21000), 200, 600, JumpDesk.NUMBER);
            Edge.outside("height", Scene::make, (x, v) -> x.plane(at, 5, 500, 350, v), 15000, 47000, JumpDesk.NUMBER);
        }
        Due.part("promise 14: refused, the seats and the weight stay as well");
        int[][] bad = {{20, 4000, 400, 14999}, {20, 4000, 400, 47001}, {20, 4000, 199, 40000}, {20, 4000, 601, 40000},
            {20, 99, 400, 40000}, {21, 4000, 400, 40000}};
        for (int[] b : bad) {
            Edge.Call refused = x -> x.plane(0, b[0], b[1], b[2], b[3]);
            Edge.done("seats", filled(6, 80, 5, 4000), refused, JumpDesk.NUMBER, x -> x.why(0, 0), 3);
            Edge.done("bears", filled(6, 80, 20, 479), refused, JumpDesk.NUMBER, x -> x.why(0, 0), 4);
        }
    }

    /** So many jumpers of that weight in flat groups of load 0, far apart, in plane 0. */
    private static Edge.Made filled(int jumpers, int weight, int seats, int bears) {
        return x -> {
            x.plane(0, seats, bears, 400, 40000);
            x.load(0);
            for (int j = 0; j < jumpers; j++) {
                if (j % 4 == 0) {
                    x.put(0, x.group(0, 9000, 0, 0), 10);
                }
                x.jumper(j, 0, weight, 1000);
                x.join(j / 4, j);
            }
            x.rule(1, 20000);
            x.start(0, x.spot(0, 0));
        };
    }

    private static void planeTaken() {
        Due.part("promise 14: seats 1 to 20");
        Edge.done("1 for 1", filled(1, 80, 9, 4000), x -> x.plane(0, 1, 4000, 400, 40000), 1, x -> x.why(0, 0), 0);
        Edge.done("1 for 2", filled(2, 80, 9, 4000), x -> x.plane(0, 1, 4000, 400, 40000), 1, x -> x.why(0, 0), 3);
        Edge.done("20 for 20", filled(20, 80, 9, 4000), x -> x.plane(0, 20, 4000, 400, 40000), 1, x -> x.why(0, 0), 0);
        Edge.done("20 for 21", filled(21, 80, 9, 4000), x -> x.plane(0, 20, 4000, 400, 40000), 1, x -> x.why(0, 0), 3);
        Due.part("promise 14: bears 100 to 4000");
        Edge.done("100 for 100", filled(1, 100, 9, 999), x -> x.plane(0, 1, 100, 400, 40000), 1, x -> x.why(0, 0), 0);
        Edge.done("100 for 101", filled(1, 101, 9, 999), x -> x.plane(0, 1, 100, 400, 40000), 1, x -> x.why(0, 0), 4);
        Edge.done("4000 for 4000", filled(20, 200, 9, 999), x -> x.plane(0, 20, 4000, 400, 40000), 1, x -> x.why(0, 0), 0);
        Edge.done("3999 for 4000", filled(20, 200, 9, 999), x -> x.plane(0, 20, 3999, 400, 40000), 1, x -> x.why(0, 0), 4);
        Due.part("promise 14: speed 200 to 600, height 15000 to 47000, planes 0 to 2");
        for (int p = 0; p <= 2; p++) {
            int at = p;
            Edge.Made two = x -> {
                x.load(at);
                x.put(0, x.group(0, 6000, 0, 0), 60);
                x.put(0, x.group(0, 6000, 0, 0), 1);
            };
            Edge.inside("speed", two, (x, v) -> x.plane(at, 5, 500, v, 30000), 200, 600, 1, x -> x.where(0, 1, 0, 0));
            Edge.inside("height", two, (x, v) -> x.plane(at, 5, 500, 300, v), 15000, 47000, 1, x -> x.where(0, 0, 0, 2));
            Edge.done("another", two, x -> x.plane((at + 1) % 3, 5, 500, 300, 20000), 1, x -> x.where(0, 1, 0, 0), 400);
        }
    }

    private static void planesAtFirst() {
        Due.part("terms 3: a plane has 10 seats, bears 1000, flies with 400 at 40000 at first");
        for (int p = 0; p <= 2; p++) {
            JumpDesk x = new JumpDesk();
            x.load(p);
            for (int j = 0; j < 11; j++) {
                if (j % 4 == 0) {
                    x.put(0, x.group(0, 9000, 0, 0), 10);
                }
                x.jumper(j, 0, 100, 1000);
                if (j < 10) {
                    x.join(j / 4, j);
                }
            }
            Due.due("10 of 100: neither seats nor weight, but home", x.why(0, 0), 11);
            x.jumper(0, 0, 101, 1000);
            Due.due("1001", x.why(0, 0), 4);
            x.join(2, 10);
            Due.due("11", x.why(0, 0), 3);
            Due.due("height", x.where(0, 0, 0, 2), 40000);
            Due.due("speed, 10 seconds on", x.where(0, 1, 0, 0), 4000);
        }
    }

    private static void rules() {
        int[] first = {1000, 3000, 20000, 20000, 20000, 20000, 0, 1, 2, 3};
        int[] most = {5000, 20000, 180000, 180000, 180000, 180000, 3, 3, 3, 3};
        Due.part("promise 15: v isn't as told");
        for (int what = 0; what < 10; what++) {
            int at = what;
            Edge.outside("rule " + what, Scene::make, (x, v) -> x.rule(at, v), 0, most[what], JumpDesk.NUMBER);
            Edge.outside("rule " + what + " at first", x -> { }, (x, v) -> x.rule(at, v), 0, most[what], JumpDesk.NUMBER);
        }
        Due.part("promise 15: what it was");
        for (int what = 0; what < 10; what++) {
            int at = what;
            Edge.inside("rule " + what, x -> { }, (x, v) -> x.rule(at, v), 0, most[what], first[what], x -> x.rule(at, 1));
            for (int other = 0; other < 10; other++) {
                if (other != what) {
                    int it = other;
                    Edge.done("rule " + what + " and not " + other, x -> { }, x -> x.rule(at, most[at]), first[what],
                        x -> x.rule(it, 0), first[other]);
                }
            }
        }
        Due.part("promise 15: another what");
        Edge.outside("what", Scene::make, (x, what) -> x.rule(what, 1), 0, 9, JumpDesk.NUMBER);
        Edge.outside("what, at first", x -> { }, (x, what) -> x.rule(what, 0), 0, 9, JumpDesk.NUMBER);
    }
}
