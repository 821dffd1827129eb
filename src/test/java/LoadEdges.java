/** The boundary cases of promises 16 to 21, sentence by sentence of the document. */
public final class LoadEdges {
    public static void main(String[] args) {
        load();
        putRefused();
        putTwice();
        putIsFull();
        putFirstNamed();
        putTaken();
        outRefused();
        outTaken();
        pauseRefused();
        pauseTaken();
        start();
        inRefused();
        in();
        Due.end();
    }

    private static Edge.Made loads(int count) {
        return x -> {
            for (int l = 0; l < count; l++) {
                x.load(l % 3);
            }
        };
    }

    private static void load() {
        Due.part("promise 16: there is no such plane");
        Edge.outside("plane", Scene::make, (x, p) -> x.load(p), 0, 2, JumpDesk.NUMBER);
        Due.part("promise 16: a load comes, its number");
        Edge.done("the first", x -> { }, x -> x.load(1), 0, x -> x.many(1), 1);
        Edge.inside("plane", Scene::make, (x, p) -> x.load(p), 0, 2, 3, x -> x.in(3, 0));
        Edge.done("no groups", Scene::make, x -> x.load(0), 3, x -> x.in(3, 1), 0);
        Edge.done("start 0", Scene::make, x -> x.load(0), 3, x -> x.in(3, 2), 0);
        Edge.done("not left", Scene::make, x -> x.load(0), 3, x -> x.in(3, 3), 0);
        Due.part("promise 16: FULL");
        Edge.done("the last that may be", loads(11), x -> x.load(2), 11, x -> x.in(11, 0), 2);
        Edge.still("one more", loads(12), x -> x.load(2), JumpDesk.FULL);
        Edge.still("12 there are", loads(12), x -> x.many(1), 12);
        Edge.still("no load 12", loads(12), x -> x.in(12, 0), -1);
        Due.part("promise 16: of several refusals the first one named");
        Edge.still("plane 3, full", loads(12), x -> x.load(3), JumpDesk.NUMBER);
        Edge.still("plane -1, full", loads(12), x -> x.load(-1), JumpDesk.NUMBER);
    }

    private static void putRefused() {
        Due.part("promise 17: there is no such load");
        Edge.outside("load", Scene::make, (x, l) -> x.put(l, 4, 1), 0, 2, JumpDesk.NUMBER);
        Edge.still("none at all", x -> x.group(0, 9000, 0, 0), x -> x.put(0, 0, 1), JumpDesk.NUMBER);
        Due.part("promise 17: there is no such group");
        Edge.outside("group", Scene::make, (x, g) -> x.put(2, g, 1), 0, 4, JumpDesk.NUMBER);
        Edge.still("none at all", x -> x.load(0), x -> x.put(0, 0, 1), JumpDesk.NUMBER);
        Due.part("promise 17: pause isn't 1 to 60");
        Edge.outside("pause", Scene::make, (x, pause) -> x.put(0, 4, pause), 1, 60, JumpDesk.NUMBER);
        Edge.inside("pause", Scene::make, (x, pause) -> x.put(0, 4, pause), 1, 60, 3, x -> x.in(0, 22));
        Due.part("promise 17: of the first one it counts nothing otherwise");
        Edge.outside("pause of the first", Scene::make, (x, pause) -> x.put(2, 4, pause), 1, 60, JumpDesk.NUMBER);
        Edge.done("it leaves at 0", Scene::make, x -> x.put(2, 4, 60), 1, x -> x.in(2, 30), 0);
        Edge.done("it is told", Scene::make, x -> x.put(2, 4, 60), 1, x -> x.in(2, 20), 60);
        Edge.done("the next leaves at its own", Scene::make, x -> x.put(2, 4, 60), 1, x -> {
            x.put(2, 2, 7);
            return x.in(2, 31);
        }, 7);
        Due.part("promise 17: STATE, the load has left");
        Edge.still("left", Scene::make, x -> x.put(Scene.LEFT_LOAD, 4, 1), JumpDesk.STATE);
    }

    private static void putTwice() {
        Due.part("promise 17: TWICE, it is in some load that has not left");
        Edge.still("in this one, the first", Scene::make, x -> x.put(0, 0, 1), JumpDesk.TWICE);
        Edge.still("in this one, the last", Scene::make, x -> x.put(0, 1, 1), JumpDesk.TWICE);
        Edge.still("in another", Scene::make, x -> x.put(2, 0, 1), JumpDesk.TWICE);
        Edge.Made inTheLast = x -> {
            loads(12).on(x);
            x.group(0, 9000, 0, 0);
            x.put(11, 0, 1);
        };
        Edge.still("in the last one", inTheLast, x -> x.put(0, 0, 1), JumpDesk.TWICE);
        Edge.done("in one that has left only", Scene::make, x -> x.put(0, Scene.LEFT_GROUP, 9), 3, x -> x.in(0, 12), 3);
        Edge.done("out of one", Scene::make, x -> x.out(0, 0), 1, x -> x.put(2, 0, 1), 1);
        Edge.Made leftAndPut = x -> {
            Scene.make(x);
            x.put(0, Scene.LEFT_GROUP, 9);
        };
        Edge.still("in one that has left and one that has not", leftAndPut, x -> x.put(2, 3, 1), JumpDesk.TWICE);
    }

    /** Load 0 of plane 0 with groups 0 to count - 1, and two groups more. */
    private static Edge.Made groupsIn(int count) {
        return x -> {
            x.load(0);
            x.load(0);
            for (int g = 0; g < count + 2; g++) {
                x.group(0, 9000, 0, 0);
                x.join(g, g);
                x.put(g < count ? 0 : 9, g, 10 + g);
            }
            x.rule(1, 20000);
            x.start(0, x.spot(0, 0));
        };
    }

    /** The same, load 0 left; group count is in load 1, and count + 1 in none. */
    private static Edge.Made leftWith(int count) {
        return x -> {
            groupsIn(count).on(x);
            x.leave(0, 0);
            x.put(1, count, 5);
        };
    }

    private static void putIsFull() {
        Due.part("promise 17: FULL, it has 6");
        Edge.done("the sixth", groupsIn(5), x -> x.put(0, 5, 33), 6, x -> x.in(0, 25), 33);
        Edge.still("the seventh", groupsIn(6), x -> x.put(0, 6, 33), JumpDesk.FULL);
        Edge.done("into another load", groupsIn(6), x -> x.put(1, 6, 33), 1, x -> x.in(1, 10), 6);
        Edge.done("in place of one that went out", groupsIn(6), x -> x.out(0, 2), 5, x -> x.put(0, 6, 33), 6);
    }

    private static void putFirstNamed() {
        Due.part("promise 17: of several refusals the first one named");
        Edge.still("no group, left", Scene::make, x -> x.put(Scene.LEFT_LOAD, 5, 1), JumpDesk.NUMBER);
        Edge.still("pause 0, left", Scene::make, x -> x.put(Scene.LEFT_LOAD, 4, 0), JumpDesk.NUMBER);
        Edge.still("pause 61, left", Scene::make, x -> x.put(Scene.LEFT_LOAD, 4, 61), JumpDesk.NUMBER);
        Edge.still("pause 61, twice", Scene::make, x -> x.put(2, 0, 61), JumpDesk.NUMBER);
        Edge.still("pause 0, full", groupsIn(6), x -> x.put(0, 6, 0), JumpDesk.NUMBER);
        Edge.still("no group, full", groupsIn(6), x -> x.put(0, 8, 1), JumpDesk.NUMBER);
        Edge.still("left, twice", Scene::make, x -> x.put(Scene.LEFT_LOAD, 0, 1), JumpDesk.STATE);
        Edge.still("left, in itself", Scene::make, x -> x.put(Scene.LEFT_LOAD, 3, 1), JumpDesk.STATE);
        Edge.still("left, full", leftWith(6), x -> x.put(0, 7, 1), JumpDesk.STATE);
        Edge.still("left, twice, full", leftWith(6), x -> x.put(0, 6, 1), JumpDesk.STATE);
        Edge.still("twice, full", groupsIn(6), x -> x.put(0, 3, 1), JumpDesk.TWICE);
        Edge.Made inAnother = x -> {
            groupsIn(6).on(x);
            x.put(1, 6, 5);
        };
        Edge.still("twice in another, full", inAnother, x -> x.put(0, 6, 1), JumpDesk.TWICE);
    }

    private static void putTaken() {
        Due.part("promise 17: to the end of a load, how many groups it has");
        JumpDesk x = Edge.desk(groupsIn(0));
        for (int g = 0; g < 4; g++) {
            x.group(0, 9000, 0, 0);
        }
        int[] row = {5, 0, 3, 1, 4, 2};
        for (int i = 0; i < 6; i++) {
            Due.due("group " + row[i], x.put(0, row[i], 60 - i), i + 1);
        }
        for (int i = 0; i < 6; i++) {
            Due.due("group at " + i, x.in(0, 10 + i), row[i]);
            Due.due("pause at " + i, x.in(0, 20 + i), 60 - i);
        }
    }

    private static void outRefused() {
        Due.part("promise 18: there is no such load");
        Edge.outside("load", Scene::make, (x, l) -> x.out(l, 0), 0, 2, JumpDesk.NUMBER);
        Due.part("promise 18: no such group in it");
        Edge.outside("of 2", Scene::make, (x, i) -> x.out(0, i), 0, 1, JumpDesk.NUMBER);
        Edge.outside("of 6", groupsIn(6), (x, i) -> x.out(0, i), 0, 5, JumpDesk.NUMBER);
        Edge.still("of none", Scene::make, x -> x.out(Scene.EMPTY_LOAD, 0), JumpDesk.NUMBER);
        Edge.still("of none any more", x -> {
            groupsIn(1).on(x);
            x.out(0, 0);
        }, x -> x.out(0, 0), JumpDesk.NUMBER);
        Due.part("promise 18: STATE, it has left");
        Edge.still("left", Scene::make, x -> x.out(Scene.LEFT_LOAD, 0), JumpDesk.STATE);
        Edge.still("left, the last of 6", leftWith(6), x -> x.out(0, 5), JumpDesk.STATE);
        Due.part("promise 18: of several refusals the first one named");
        Edge.still("no such group, left", Scene::make, x -> x.out(Scene.LEFT_LOAD, 1), JumpDesk.NUMBER);
        Edge.still("group -1, left", Scene::make, x -> x.out(Scene.LEFT_LOAD, -1), JumpDesk.NUMBER);
        Edge.still("group 6, left", leftWith(6), x -> x.out(0, 6), JumpDesk.NUMBER);
    }

    private static void outTaken() {
        Due.part("promise 18: group i goes out of it, with its pause");
        for (int gone = 0; gone < 6; gone++) {
            JumpDesk x = Edge.desk(groupsIn(6));
            Due.due("how many", x.out(0, gone), 5);
            int second = 0;
            for (int i = 0; i < 5; i++) {
                int was = i < gone ? i : i + 1;
                second += i == 0 ? 0 : 10 + was;
                Due.due("group " + i + " without " + gone, x.in(0, 10 + i), was);
                Due.due("pause " + i + " without " + gone, x.in(0, 20 + i), 10 + was);
                Due.due("second " + i + " without " + gone, x.in(0, 30 + i), second);
            }
            Due.due("no group 5", x.in(0, 15), -1);
            Due.due("no pause 5", x.in(0, 25), -1);
            Due.due("no second 5", x.in(0, 35), -1);
        }
        Edge.done("the only one", groupsIn(1), x -> x.out(0, 0), 0, x -> x.in(0, 1), 0);
    }

    private static void pauseRefused() {
        Due.part("promise 19: there is no such load");
        Edge.outside("load", Scene::make, (x, l) -> x.pause(l, 0, 9), 0, 2, JumpDesk.NUMBER);
        Due.part("promise 19: no such group in it");
        Edge.outside("of 2", Scene::make, (x, i) -> x.pause(0, i, 9), 0, 1, JumpDesk.NUMBER);
        Edge.outside("of 6", groupsIn(6), (x, i) -> x.pause(0, i, 9), 0, 5, JumpDesk.NUMBER);
        Edge.still("of none", Scene::make, x -> x.pause(Scene.EMPTY_LOAD, 0, 9), JumpDesk.NUMBER);
        Due.part("promise 19: pause isn't 1 to 60");
        Edge.outside("pause", Scene::make, (x, pause) -> x.pause(0, 1, pause), 1, 60, JumpDesk.NUMBER);
        Edge.outside("pause of the first", Scene::make, (x, pause) -> x.pause(0, 0, pause), 1, 60, JumpDesk.NUMBER);
        Due.part("promise 19: STATE, it has left");
        Edge.still("left", leftWith(2), x -> x.pause(0, 1, 9), JumpDesk.STATE);
        Edge.still("left, the first", Scene::make, x -> x.pause(Scene.LEFT_LOAD, 0, 9), JumpDesk.STATE);
        Due.part("promise 19: of several refusals the first one named");
        Edge.still("no such group, left", leftWith(2), x -> x.pause(0, 2, 9), JumpDesk.NUMBER);
        Edge.still("group -1, left", leftWith(2), x -> x.pause(0, -1, 9), JumpDesk.NUMBER);
        Edge.still("pause 0, left", leftWith(2), x -> x.pause(0, 1, 0), JumpDesk.NUMBER);
        Edge.still("pause 61, left", leftWith(2), x -> x.pause(0, 1, 61), JumpDesk.NUMBER);
    }

    private static void pauseTaken() {
        Due.part("promise 19: the pause ahead of group i");
        for (int i = 0; i < 6; i++) {
            int at = i;
            Edge.inside("pause " + i, groupsIn(6), (x, pause) -> x.pause(0, at, pause), 1, 60, 1, x -> x.in(0, 20 + at));
            Edge.done("second 5", groupsIn(6), x -> x.pause(0, at, 1), 1, x -> x.in(0, 35), i == 0 ? 65 : 65 - 9 - i);
        }
    }

    private static void start() {
        Due.part("promise 20: there is no such load");
        Edge.outside("load", Scene::make, (x, l) -> x.start(l, 7), 0, 2, JumpDesk.NUMBER);
        Due.part("promise 20: x isn't -50000 to 50000");
        Edge.outside("start", Scene::make, (x, v) -> x.start(0, v), -50000, 50000, JumpDesk.NUMBER);
        Edge.inside("start", Scene::make, (x, v) -> x.start(0, v), -50000, 50000, 1, x -> x.in(0, 2));
        Edge.inside("start without groups", Scene::make, (x, v) -> x.start(2, v), -50000, 50000, 1, x -> x.in(2, 2));
        Edge.inside("it leaves there", Scene::make, (x, v) -> x.start(0, v), -50000, 50000, 1, x -> x.where(0, 0, 0, 0));
        Due.part("promise 20: STATE, it has left");
        Edge.still("left", Scene::make, x -> x.start(Scene.LEFT_LOAD, 7), JumpDesk.STATE);
        Due.part("promise 20: of several refusals the first one named");
        Edge.still("50001, left", Scene::make, x -> x.start(Scene.LEFT_LOAD, 50001), JumpDesk.NUMBER);
        Edge.still("-50001, left", Scene::make, x -> x.start(Scene.LEFT_LOAD, -50001), JumpDesk.NUMBER);
    }

    private static void inRefused() {
        Due.part("promise 21: -1, there is none such");
        for (int what : new int[] {0, 1, 2, 3, 10, 20, 30}) {
            Edge.outside("load, what " + what, Scene::make, (x, l) -> x.in(l, what), 0, 2, -1);
        }
        for (int ten = 10; ten <= 30; ten += 10) {
            int at = ten;
            Edge.still("the third of 2, " + ten, Scene::make, x -> x.in(0, at + 2), -1);
            Edge.still("the seventh of 6, " + ten, groupsIn(6), x -> x.in(0, at + 6), -1);
            Edge.still("the first of none, " + ten, Scene::make, x -> x.in(Scene.EMPTY_LOAD, at), -1);
            Edge.still("the second of one, left, " + ten, Scene::make, x -> x.in(Scene.LEFT_LOAD, at + 1), -1);
        }
        Due.part("promise 21: -1, another what");
        Edge.outside("what", groupsIn(6), (x, what) -> x.in(0, what), 0, 35, -1);
        for (int what : new int[] {4, 5, 6, 7, 8, 9, 16, 17, 18, 19, 26, 27, 28, 29, 36, 37, 38, 39, 40, 41, 50, 100, 110}) {
            Edge.still("what " + what, groupsIn(6), x -> x.in(0, what), -1);
        }
    }

    private static void in() {
        Due.part("promise 21: of a load");
        JumpDesk x = Edge.desk(Scene::make);
        int[][] due = {{0, 2, -4000, 0}, {1, 1, -3000, 1}, {2, 0, 0, 0}};
        for (int l = 0; l < 3; l++) {
            for (int what = 0; what < 4; what++) {
                Due.due("load " + l + " what " + what, x.in(l, what), due[l][what]);
            }
        }
        Due.due("group of one that has left", x.in(1, 10), 3);
        Due.due("pause of one that has left", x.in(1, 20), 7);
        Due.due("second of one that has left", x.in(1, 30), 0);
        JumpDesk six = Edge.desk(groupsIn(6));
        int second = 0;
        for (int i = 0; i < 6; i++) {
            second += i == 0 ? 0 : 10 + i;
            Due.due("group " + i, six.in(0, 10 + i), i);
            Due.due("pause " + i, six.in(0, 20 + i), 10 + i);
            Due.due("second " + i, six.in(0, 30 + i), second);
        }
        for (int i = 0; i < 6; i++) {
            six.pause(0, i, 60);
        }
        Due.due("the longest: five pauses of 60", six.in(0, 35), 300);
        for (int i = 0; i < 6; i++) {
            six.pause(0, i, 1);
        }
        Due.due("the shortest: five pauses of 1", six.in(0, 35), 5);
    }
}
