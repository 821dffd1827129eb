/** The boundary cases of promises 23 to 26, with NEAR, FREE, BETWEEN and HOME, sentence by sentence. */
public final class FlightEdges {
    private static final int NO_SPOT = -100001;
    private static final int NO_SPOT_ASKED = -100002;
    private static final int OPEN = 2;
    private static final int DOWN = 3;

    public static void main(String[] args) {
        nearRefused();
        nearOfWhole();
        nearBeyond();
        nearAsThen();
        free();
        betweenRefused();
        between();
        betweenNone();
        orderRefused();
        orderNone();
        orderOfOne();
        orderLesser();
        orderByRanks();
        orderRoundGaps();
        orderOfSix();
        orderBrings();
        spotRefused();
        spotWithoutGroups();
        spotAtTheEnds();
        spotOfOnePlace();
        spotByField();
        spotByForward();
        spotByTwo();
        spotAsThen();
        Due.end();
    }

    private static void blow(JumpDesk x, int alongX, int alongY) {
        for (int layer = 0; layer <= 11; layer++) {
            x.wind(layer, alongX, alongY);
        }
    }

    /** Groups of these kinds, opens 9000, in load 0 of plane 0; that one of itself is behind the one ahead. */
    private static Edge.Made row(int pause, int... kinds) {
        return x -> {
            x.load(0);
            for (int g = 0; g < kinds.length; g++) {
                x.group(kinds[g], 9000, 0, 0);
                x.put(0, g, pause);
            }
        };
    }

    private static Edge.Made with(Edge.Made first, Edge.Made then) {
        return x -> {
            first.on(x);
            then.on(x);
        };
    }

    // ---- promise 23

    private static void nearRefused() {
        Due.part("promise 23: there is no such load");
        Edge.outside("load", Scene::make, (x, l) -> x.near(l, 0, 1), 0, 2, JumpDesk.NUMBER);
        Edge.still("none at all", x -> { }, x -> x.near(0, 0, 1), JumpDesk.NUMBER);
        Due.part("promise 23: one isn't in it");
        Edge.outside("i of 2", Scene::make, (x, i) -> x.near(0, i, 0), 0, 1, JumpDesk.NUMBER);
        Edge.outside("j of 2", Scene::make, (x, j) -> x.near(0, 1, j), 0, 1, JumpDesk.NUMBER);
        Edge.outside("both of 2", Scene::make, (x, i) -> x.near(0, i, i), 0, 1, JumpDesk.NUMBER);
        Edge.Made six = row(9, 0, 1, 2, 3, 0, 1);
        Edge.outside("i of 6", six, (x, i) -> x.near(0, i, 0), 0, 5, JumpDesk.NUMBER);
        Edge.outside("j of 6", six, (x, j) -> x.near(0, 5, j), 0, 5, JumpDesk.NUMBER);
        Edge.still("of none", Scene::make, x -> x.near(Scene.EMPTY_LOAD, 0, 1), JumpDesk.NUMBER);
        Edge.still("of one", Scene::make, x -> x.near(Scene.LEFT_LOAD, 0, 1), JumpDesk.NUMBER);
        Edge.still("of one, turned", Scene::make, x -> x.near(Scene.LEFT_LOAD, 1, 0), JumpDesk.NUMBER);
        Due.part("promise 23: or they are the same");
        Edge.still("the first", Scene::make, x -> x.near(0, 0, 0), JumpDesk.NUMBER);
        Edge.still("the second", Scene::make, x -> x.near(0, 1, 1), JumpDesk.NUMBER);
        Edge.still("the only one", Scene::make, x -> x.near(Scene.LEFT_LOAD, 0, 0), JumpDesk.NUMBER);
        Edge.still("the sixth", six, x -> x.near(0, 5, 5), JumpDesk.NUMBER);
        Due.part("promise 23: taken, it changes nothing");
        long near = Edge.desk(Scene::make).near(0, 0, 1);
        Edge.still("0, 1", Scene::make, x -> x.near(0, 0, 1), near);
        Edge.still("1, 0", Scene::make, x -> x.near(0, 1, 0), near);
        Due.holds("there is one", near > 0 && near < JumpDesk.BEYOND);
    }

    /** By second and what: where group i of load 0 is, asked of so many desks that none is asked too much. */
    private static int[][] way(Edge.Made made, int i) {
        int[][] way = new int[1001][4];
        JumpDesk x = null;
        for (int t = 0; t <= 1000; t++) {
            if (t % 100 == 0) {
                x = Edge.desk(made);
            }
            for (int what = 0; what < 4; what++) {
                way[t][what] = x.where(0, i, t, what);
            }
        }
        return way;
    }

    /** The least square from second first of the one behind on, with so many more seconds than both are up. */
    private static long least(int[][] ahead, int[][] behind, int pause, int first, int more) {
        long least = JumpDesk.BEYOND;
        for (int s = first; s + pause <= 1000; s++) {
            int was = s - more;
            if (was >= 0 && (ahead[was + pause][3] == DOWN || behind[was][3] == DOWN)) {
                break;
            }
            long dx = ahead[s + pause][0] - behind[s][0];
            long dy = ahead[s + pause][1] - behind[s][1];
            long dz = ahead[s + pause][2] - behind[s][2];
            least = Math.min(least, dx * dx + dy * dy + dz * dz);
        }
        return least;
    }

    private static long nearOf(Edge.Made made, int i, int j) {
        JumpDesk x = Edge.desk(made);
        long near = x.near(0, i, j);
        Due.due("turned", x.near(0, j, i), near);
        return near;
    }

    /** Two groups of these kinds; the wind along x in the layers below 4, above it none. */
    private static Edge.Made two(int ahead, int behind, int pause, int speed, int height, int wind) {
        return x -> {
            x.plane(0, 10, 1000, speed, height);
            row(pause, ahead, behind).on(x);
            for (int layer = 0; layer < 4; layer++) {
                x.wind(layer, wind, 0);
            }
        };
    }

    private static void nearOfWhole() {
        Due.part("terms 3: near, at which both have left, one that leaves just then, too");
        Edge.Made one = two(0, 0, 1, 400, 40000, 0);
        int[][] first = way(one, 0);
        int[][] second = way(one, 1);
        Due.due("as the second leaves", nearOf(one, 0, 1), 200 * 200 + 100 * 100);
        Due.due("by where", least(first, second, 1, 0, 0), 200 * 200 + 100 * 100);
        Due.holds("a second on they are farther apart", least(first, second, 1, 1, 0) > 200 * 200 + 100 * 100);
        Due.part("terms 3: near, and neither is down: the one ahead is down first");
        Edge.Made ahead = with(two(0, 3, 60, 200, 15000, 0), x -> x.wind(0, 140, 0));
        first = way(ahead, 0);
        second = way(ahead, 1);
        Due.due("by where", nearOf(ahead, 0, 1), least(first, second, 60, 0, 0));
        Due.holds("the last second counts", least(first, second, 60, 0, 0) < least(first, second, 60, 0, -1));
        Due.holds("as it comes down it is nearer", least(first, second, 60, 0, 1) < least(first, second, 60, 0, 0));
        Due.part("terms 3: near, and neither is down: the one behind is down first");
        Edge.Made behind = two(3, 1, 60, 600, 40000, 60);
        first = way(behind, 0);
        second = way(behind, 1);
        int downBehind = 0;
        while (second[downBehind][3] != DOWN) {
            downBehind++;
        }
        Due.holds("the first one is up then", first[downBehind + 60][3] == OPEN);
        Due.due("by where", nearOf(behind, 0, 1), least(first, second, 60, 0, 0));
        Due.holds("it comes nearer to where that one lies", least(first, second, 60, 0, 500) < least(first, second, 60, 0, 0));
        nearAsOneComesDown();
        Due.part("terms 3: near, of differences in y");
        for (int direction = 1; direction <= 3; direction++) {
            int to = direction;
            Edge.Made tracks = x -> {
                x.load(0);
                for (int g = 0; g < 2; g++) {
                    x.group(2, 6000, 0, g == 0 ? 1 : to);
                    x.put(0, g, 2);
                }
            };
            Due.due("tracks 1 and " + to, nearOf(tracks, 0, 1), least(way(tracks, 0), way(tracks, 1), 2, 0, 0));
        }
        Due.part("terms 3: near, of any kinds");
        for (int kinds = 0; kinds < 16; kinds++) {
            int aside = 5 * kinds - 40;
            Edge.Made along = two(kinds / 4, kinds % 4, 7 + 3 * kinds, 200 + 25 * kinds, 15000 + 2000 * kinds, 90 - 12 * kinds);
            Edge.Made made = with(along, x -> x.wind(1, aside, 3 * aside));
            long due = least(way(made, 0), way(made, 1), 7 + 3 * kinds, 0, 0);
            Due.due("kinds " + kinds, nearOf(made, 0, 1), due);
        }
    }

    /** Under canopies the one behind is lower all the way; it comes down by less than 50, so that it would be nearer. */
    private static void nearAsOneComesDown() {
        Due.part("terms 3: near, and neither is down: nearest as the one behind comes down");
        for (int last = 10; last <= 40; last += 10) {
            int height = 16000 + last;
            Edge.Made made = x -> {
                x.plane(0, 10, 1000, 200, height);
                x.wind(1, 100, 0);
                x.load(0);
                for (int g = 0; g < 4; g++) {
                    x.group(g == 3 ? 1 : 0, g == 3 ? 6000 : 15000, 0, 0);
                    x.put(0, g, 50);
                }
            };
            int[][] first = way(made, 0);
            int[][] second = way(made, 3);
            long due = least(first, second, 150, 0, 0);
            Due.holds("as it comes down it would be nearer", least(first, second, 150, 0, 1) < due);
            Due.due("by where, last " + last, nearOf(made, 0, 3), due);
        }
    }

    private static void nearBeyond() {
        Due.part("terms 3: BEYOND if there is no such second");
        Edge.Made low = x -> {
            x.plane(0, 10, 1000, 400, 15000);
            x.load(0);
            for (int g = 0; g < 4; g++) {
                x.group(1, 6000, 0, 0);
                x.put(0, g, 60);
            }
        };
        JumpDesk x = Edge.desk(low);
        Due.due("ahead of down", x.where(0, 0, 131, 3), OPEN);
        Due.due("down", x.where(0, 0, 132, 3), DOWN);
        x.pause(0, 3, 11);
        Due.due("it leaves at 131", x.in(0, 33), 131);
        long apart = 131L * 400 - 397;
        Due.due("a second in which the first is still up", x.near(0, 0, 3), apart * apart + 14950L * 14950);
        Due.due("turned", x.near(0, 3, 0), apart * apart + 14950L * 14950);
        x.pause(0, 3, 12);
        Due.due("down as it leaves", x.near(0, 0, 3), JumpDesk.BEYOND);
        Due.due("turned", x.near(0, 3, 0), 1152921504606846976L);
        Due.holds("not so for the others", x.near(0, 1, 3) < JumpDesk.BEYOND && x.near(0, 2, 3) < JumpDesk.BEYOND);
        x.pause(0, 3, 60);
        Due.due("long down", x.near(0, 0, 3), JumpDesk.BEYOND);
        Edge.still("it changes nothing", low, y -> y.near(0, 0, 3), JumpDesk.BEYOND);
    }

    /** Load 0 of plane 1, which is unlike the others, with two groups that the wind carries together and aside. */
    private static void aboutToLeave(JumpDesk x) {
        x.plane(1, 10, 1000, 300, 30000);
        x.load(1);
        for (int g = 0; g < 2; g++) {
            x.group(g, 9000, 0, 0);
            x.join(g, g);
            x.put(0, g, 30);
        }
        x.wind(0, 40, 7);
        x.wind(1, -5, 60);
        x.wind(2, 5, 7);
        x.rule(1, 20000);
    }

    private static void nearAsThen() {
        Due.part("promise 23: wind and plane likewise");
        long was = Edge.desk(FlightEdges::aboutToLeave).near(0, 0, 1);
        Edge.Made left = with(FlightEdges::aboutToLeave, x -> x.leave(0, 0));
        Due.due("it left", Edge.desk(left).in(0, 3), 1);
        Due.due("as ahead of it", Edge.desk(left).near(0, 0, 1), was);
        Edge.done("the wind then", left, x -> x.wind(2, 200, -90), 1, x -> x.near(0, 0, 1), was);
        Edge.done("the plane then", left, x -> x.plane(1, 10, 1000, 600, 47000), 1, x -> x.near(0, 0, 1), was);
        Edge.Made stays = row(30, 0, 1);
        long is = Edge.desk(stays).near(0, 0, 1);
        Edge.Made blown = with(stays, x -> x.wind(2, 100, -90));
        Due.holds("the wind now", Edge.desk(blown).near(0, 0, 1) != is);
        Edge.Made faster = with(stays, x -> x.plane(0, 10, 1000, 600, 40000));
        Due.holds("the plane now", Edge.desk(faster).near(0, 0, 1) > is);
        Edge.done("the start is nothing", stays, x -> x.start(0, 50000), 1, x -> x.near(0, 0, 1), is);
    }

    // ---- free, promise 24

    /** The wind goes on as fast as the plane: two of a kind are 50 times their pause apart in height, no more. */
    private static Edge.Made carried(int pause, int... kinds) {
        return x -> {
            blow(x, 200, 0);
            x.plane(0, 20, 4000, 200, 40000);
            row(pause, kinds).on(x);
        };
    }

    /** Of a high one and a flat one 7 seconds behind it, both are at the same place at one second. */
    private static Edge.Made meet() {
        return x -> {
            x.plane(0, 10, 1000, 224, 40000);
            x.wind(9, 226, 0);
            row(7, 3, 0).on(x);
            x.join(0, 0);
            x.join(1, 1);
            x.rule(1, 20000);
            x.rule(6, 3);
        };
    }

    private static int whyWithFree(Edge.Made made, int free) {
        JumpDesk x = Edge.desk(made);
        x.rule(0, free);
        x.start(0, x.spot(0, 0));
        return x.why(0, 0);
    }

    private static void free() {
        Due.part("terms 3: free if near is not below its square");
        Due.due("nearest at 60", Edge.desk(carried(60, 3, 3)).near(0, 0, 1), 3000 * 3000);
        Edge.Made apart = with(carried(60, 3, 3), x -> {
            x.plane(0, 20, 4000, 200, 15000);
            x.wind(0, 0, 0);
            x.wind(1, 0, 0);
            x.join(0, 0);
            x.join(1, 1);
            x.rule(1, 20000);
            x.rule(5, 180000);
        });
        Due.holds("there are places to leave from", Edge.desk(apart).spot(0, 0) > -50000);
        Due.due("its square", whyWithFree(apart, 3000), 0);
        Due.due("below its square", whyWithFree(apart, 3001), 10);
        Due.due("above its square", whyWithFree(apart, 2999), 0);
        Due.due("0 of free 0", Edge.desk(meet()).near(0, 0, 1), 0);
        Edge.Made blown = with(meet(), x -> x.rule(5, 180000));
        Due.due("near 0 is free with 0", whyWithFree(blown, 0), 0);
        Due.due("near 0 isn't free with 1", whyWithFree(blown, 1), 10);
        Due.part("terms 3: free is 1000 at first");
        Due.due("50 times 20", Edge.desk(carried(1, 3, 3)).between(0, 0, 1), 20);
        Edge.done("as told", carried(1, 3, 3), x -> x.rule(0, 1000), 1000, x -> x.between(0, 0, 1), 20);
        Edge.done("one more", carried(1, 3, 3), x -> x.rule(0, 1001), 1000, x -> x.between(0, 0, 1), 21);
        Due.part("terms 3: free if BEYOND");
        Edge.Made beyond = x -> {
            x.plane(0, 10, 1000, 200, 15000);
            x.rule(0, 5000);
            x.rule(1, 20000);
            x.load(0);
            for (int g = 0; g < 4; g++) {
                x.group(1, 6000, 50, 0);
                x.join(g, g);
                x.put(0, g, 60);
            }
        };
        JumpDesk x = Edge.desk(beyond);
        Due.due("beyond", x.near(0, 0, 3), JumpDesk.BEYOND);
        x.start(0, x.spot(0, 0));
        Due.due("so nothing bars it", x.why(0, 0), 0);
    }

    private static void betweenRefused() {
        Due.part("promise 24: there is no such plane");
        Edge.outside("plane", Scene::make, (x, p) -> x.between(p, 0, 1), 0, 2, JumpDesk.NUMBER);
        Due.part("promise 24: there is no such group");
        Edge.outside("g", Scene::make, (x, g) -> x.between(0, g, 1), 0, 4, JumpDesk.NUMBER);
        Edge.outside("h", Scene::make, (x, h) -> x.between(0, 1, h), 0, 4, JumpDesk.NUMBER);
        Edge.outside("both", Scene::make, (x, g) -> x.between(0, g, g), 0, 4, JumpDesk.NUMBER);
        Edge.still("none at all", x -> { }, x -> x.between(0, 0, 1), JumpDesk.NUMBER);
        Edge.Made twenty = x -> {
            for (int g = 0; g < 20; g++) {
                x.group(0, 9000, 0, 0);
            }
        };
        Edge.still("the last ones of 20", twenty, x -> x.between(0, 18, 19), 3);
        Edge.still("g 20 of 20", twenty, x -> x.between(0, 20, 19), JumpDesk.NUMBER);
        Edge.still("h 20 of 20", twenty, x -> x.between(0, 19, 20), JumpDesk.NUMBER);
        Due.part("promise 24: they are the same");
        for (int g = 0; g <= 4; g++) {
            int same = g;
            Edge.still("the same " + g, Scene::make, x -> x.between(0, same, same), JumpDesk.NUMBER);
        }
        Due.part("promise 24: of several refusals the first one named");
        Edge.Made none = with(carried(1, 3, 3), x -> x.rule(0, 3600));
        Edge.still("none", none, x -> x.between(0, 0, 1), JumpDesk.NONE);
        Edge.still("the same, none", none, x -> x.between(0, 1, 1), JumpDesk.NUMBER);
        Edge.still("no plane, none", none, x -> x.between(3, 0, 1), JumpDesk.NUMBER);
    }

    private static void between() {
        Due.part("terms 3: between, the least pause with which both are free");
        for (int kinds = 0; kinds < 16; kinds++) {
            Edge.Made made = two(kinds / 4, kinds % 4, 1, 200 + 20 * kinds, 40000 - 1500 * kinds, 100 - 13 * kinds);
            for (int free : new int[] {0, 300, 1000, 1700, 2600, 3900, 5000}) {
                JumpDesk x = Edge.desk(made);
                x.rule(0, free);
                int due = JumpDesk.NONE;
                for (int pause = 60; pause >= 1; pause--) {
                    x.pause(0, 1, pause);
                    due = x.near(0, 0, 1) >= (long) free * free ? pause : due;
                }
                Due.due("kinds " + kinds + " free " + free, x.between(0, 0, 1), due);
            }
        }
        Due.part("terms 3: between, for group g and then group h");
        JumpDesk x = Edge.desk(with(row(1, 3, 0), y -> y.rule(0, 5000)));
        int ahead = x.between(0, 0, 1);
        int behind = x.between(0, 1, 0);
        Due.holds("the flat one ahead is soon away", behind > 0 && behind < ahead);
        Due.part("terms 3: between, alone in a load");
        Edge.Made scene = Scene::make;
        int due = Edge.desk(scene).between(0, 0, 1);
        Edge.still("it changes nothing", scene, y -> y.between(0, 0, 1), due);
        Edge.done("their pauses are nothing", scene, y -> y.pause(0, 1, 60), 1, y -> y.between(0, 0, 1), due);
        Edge.done("where they are is nothing", scene, y -> y.out(0, 0), 1, y -> y.between(0, 0, 1), due);
        Edge.done("the start is nothing", scene, y -> y.start(0, 50000), 1, y -> y.between(0, 0, 1), due);
        Edge.done("ranks are nothing", scene, y -> y.rule(6, 3), 0, y -> y.between(0, 0, 1), due);
        Due.holds("of one that has left", Edge.desk(scene).between(1, Scene.LEFT_GROUP, Scene.EMPTY_GROUP) > 0);
    }

    private static void betweenNone() {
        Due.part("terms 3: between, 1 to 60");
        Edge.Made made = carried(1, 3, 3);
        Edge.done("free 0", made, x -> x.rule(0, 0), 1000, x -> x.between(0, 0, 1), 1);
        Edge.done("50", made, x -> x.rule(0, 50), 1000, x -> x.between(0, 0, 1), 1);
        Edge.done("51", made, x -> x.rule(0, 51), 1000, x -> x.between(0, 0, 1), 2);
        Edge.done("2950", made, x -> x.rule(0, 2950), 1000, x -> x.between(0, 0, 1), 59);
        Edge.done("2951", made, x -> x.rule(0, 2951), 1000, x -> x.between(0, 0, 1), 60);
        Edge.done("3000", made, x -> x.rule(0, 3000), 1000, x -> x.between(0, 0, 1), 60);
        Due.part("terms 3: between, of all seconds: at one they are as far apart as free tells, then nearer");
        for (int from = 3001; from <= 5000; from += 200) {
            JumpDesk x = Edge.desk(carried(1, 0, 0));
            for (int free = from; free < from + 200; free++) {
                x.rule(0, free);
                Due.due("free " + free, x.between(0, 0, 1), JumpDesk.NONE);
            }
        }
        Due.part("promise 24: NONE");
        Edge.done("3001", made, x -> x.rule(0, 3001), 1000, x -> x.between(0, 0, 1), JumpDesk.NONE);
        Edge.done("5000", made, x -> x.rule(0, 5000), 1000, x -> x.between(0, 0, 1), JumpDesk.NONE);
        Edge.still("it changes nothing", with(made, x -> x.rule(0, 3001)), x -> x.between(0, 0, 1), JumpDesk.NONE);
    }

    // ---- promise 25

    private static void orderRefused() {
        Due.part("promise 25: there is no such load");
        Edge.outside("load", Scene::make, (x, l) -> x.order(l), 0, 2, JumpDesk.NUMBER);
        Edge.still("none at all", x -> { }, x -> x.order(0), JumpDesk.NUMBER);
        Due.part("promise 25: STATE, it has left");
        Edge.still("left", Scene::make, x -> x.order(Scene.LEFT_LOAD), JumpDesk.STATE);
        Edge.Made leftWithout = x -> {
            Scene.make(x);
            x.rule(0, 5000);
        };
        Edge.still("left, free 5000", leftWithout, x -> x.order(Scene.LEFT_LOAD), JumpDesk.STATE);
        Due.part("promise 25: NONE, it has no groups");
        Edge.still("no groups", Scene::make, x -> x.order(Scene.EMPTY_LOAD), JumpDesk.NONE);
        Edge.still("none any more", with(row(9, 0), x -> x.out(0, 0)), x -> x.order(0), JumpDesk.NONE);
    }

    private static void orderNone() {
        Due.part("promise 25: NONE, there is no such order: no between");
        Edge.Made none = with(carried(7, 3, 3), x -> x.rule(0, 3001));
        Edge.still("none between", none, x -> x.order(0), JumpDesk.NONE);
        Edge.Made just = with(carried(7, 3, 3), x -> x.rule(0, 3000));
        Edge.done("60 between", just, x -> x.order(0), 60, x -> x.in(0, 21), 60);
        Edge.Made turned = with(none, x -> {
            x.out(0, 0);
            x.put(0, 0, 8);
        });
        Edge.still("the greater one ahead stays so", turned, x -> x.order(0), JumpDesk.NONE);
        Due.part("promise 25: NONE, there is no such order: ranks");
        // Two tracks have none between; a flat one, free of both, may stand between them with their rank alone.
        Edge.Made three = with(carried(7, 2, 2, 0), x -> x.rule(0, 3001));
        JumpDesk x = Edge.desk(three);
        Due.holds("free of both", x.between(0, 0, 2) > 0 && x.between(0, 2, 1) > 0);
        Due.holds("and the other way about", x.between(0, 1, 2) > 0 && x.between(0, 2, 0) > 0);
        Due.due("but not these", x.between(0, 0, 1), JumpDesk.NONE);
        Due.due("but not these", x.between(0, 1, 0), JumpDesk.NONE);
        for (int rank = 0; rank <= 2; rank++) {
            int lesser = rank;
            Edge.Made flat = with(three, y -> {
                y.rule(6, lesser);
                y.rule(8, 3);
            });
            Edge.still("flat has rank " + rank, flat, y -> y.order(0), JumpDesk.NONE);
            Edge.Made tracks = with(three, y -> {
                y.rule(6, 3);
                y.rule(8, lesser);
            });
            Edge.still("tracks have rank " + rank, tracks, y -> y.order(0), JumpDesk.NONE);
        }
        Edge.Made alike = with(three, y -> y.rule(6, 2));
        int sum = x.between(0, 0, 2) + x.between(0, 2, 1);
        Edge.done("both have rank 2", alike, y -> y.order(0), sum, y -> y.in(0, 11), 2);
        Edge.done("of the two orders the lesser", alike, y -> y.order(0), sum, y -> y.in(0, 10), 0);
    }

    private static void orderOfOne() {
        Due.part("promise 25: of one group 0, ahead of the first group 1");
        for (int kind = 0; kind <= 3; kind++) {
            Edge.Made one = row(44, kind);
            Edge.done("the sum", one, x -> x.order(0), 0, x -> x.in(0, 1), 1);
            Edge.done("its pause", one, x -> x.order(0), 0, x -> x.in(0, 20), 1);
            Edge.done("free 5000", with(one, x -> x.rule(0, 5000)), x -> x.order(0), 0, x -> x.in(0, 10), 0);
        }
    }

    private static void orderLesser() {
        Due.part("promise 25: of such the one with the lesser group where they are first unlike");
        int[][] rows = {{1, 0}, {0, 1}, {2, 1, 0}, {1, 2, 0}, {0, 2, 1}, {3, 1, 0, 2}, {5, 4, 3, 2, 1, 0}, {0, 5, 4, 1, 3, 2}};
        for (int[] row : rows) {
            Edge.Made made = x -> {
                x.load(0);
                for (int g = 0; g < 6; g++) {
                    x.group(0, 9000, 0, 0);
                }
                for (int g : row) {
                    x.put(0, g, 9);
                }
            };
            JumpDesk x = Edge.desk(made);
            Due.due("3 seconds each", x.order(0), 3 * (row.length - 1));
            for (int i = 0; i < row.length; i++) {
                Due.due("group at " + i, x.in(0, 10 + i), i);
                Due.due("pause at " + i, x.in(0, 20 + i), i == 0 ? 1 : 3);
            }
        }
        JumpDesk high = new JumpDesk();
        high.load(0);
        for (int g = 0; g < 20; g++) {
            high.group(0, 9000, 0, 0);
        }
        for (int g : new int[] {19, 3, 10, 9, 18}) {
            high.put(0, g, 9);
        }
        Due.due("of 20", high.order(0), 12);
        int[] due = {3, 9, 10, 18, 19};
        for (int i = 0; i < 5; i++) {
            Due.due("by number " + i, high.in(0, 10 + i), due[i]);
        }
        lesserUnlike();
    }

    /** The least sum counts first: the greater group leads if that is shorter. */
    private static void lesserUnlike() {
        Edge.Made far = x -> {
            x.rule(0, 5000);
            x.rule(6, 3);
        };
        JumpDesk x = Edge.desk(with(row(9, 3, 0), far));
        int ahead = x.between(0, 0, 1);
        int behind = x.between(0, 1, 0);
        Due.holds("the greater one ahead is shorter", behind < ahead);
        Due.due("the least sum", x.order(0), behind);
        Due.due("the greater one leads", x.in(0, 10), 1);
        JumpDesk turned = Edge.desk(with(row(9, 0, 3), far));
        Due.due("the least sum", turned.order(0), behind);
        Due.due("the lesser one leads", turned.in(0, 10), 0);
    }

    private static void orderByRanks() {
        Due.part("promise 25: that ranks allow");
        for (int kind = 0; kind <= 3; kind++) {
            for (int other = 0; other <= 3; other++) {
                if (kind != other) {
                    orderByRank(kind, other);
                }
            }
        }
    }

    private static void orderByRank(int kind, int other) {
        Edge.Made made = with(row(9, kind, other), x -> {
            x.rule(6 + kind, 2);
            x.rule(6 + other, 1);
        });
        JumpDesk x = Edge.desk(made);
        int behind = x.between(0, 1, 0);
        Due.due("the lesser rank ahead: " + kind + " " + other, x.order(0), behind);
        Due.due("it leads", x.in(0, 10), 1);
        x.rule(6 + other, 2);
        int due = Math.min(behind, x.between(0, 0, 1));
        Due.due("the same rank: either way", x.order(0), due);
        Due.due("who leads", x.in(0, 10), x.between(0, 0, 1) <= behind ? 0 : 1);
        x.rule(6 + other, 3);
        Due.due("the greater rank behind", x.order(0), x.between(0, 0, 1));
        Due.due("it is last", x.in(0, 11), 1);
    }

    /** Not each two need a between, only those that follow each other. */
    private static void orderRoundGaps() {
        Due.part("promise 25: in which each two that follow each other have a between");
        Edge.Made made = with(carried(7, 2, 2, 0, 0, 2), x -> {
            x.rule(0, 3001);
            x.rule(6, 2);
        });
        JumpDesk x = Edge.desk(made);
        int sum = x.order(0);
        Due.holds("track and flat by turns", sum > 0);
        int due = 0;
        for (int i = 0; i < 5; i++) {
            Due.due("kind at " + i, x.of(x.in(0, 10 + i), 0), i % 2 == 0 ? 2 : 0);
            due += i == 0 ? 0 : x.between(0, x.in(0, 9 + i), x.in(0, 10 + i));
        }
        Due.due("the sum of these", sum, due);
        Due.due("the least of each kind ahead", x.in(0, 10), 0);
        Due.due("then", x.in(0, 11), 2);
        Due.due("then", x.in(0, 12), 1);
        Due.due("then", x.in(0, 13), 3);
        Due.due("then", x.in(0, 14), 4);
        Edge.still("one flat one less", with(made, y -> y.out(0, 3)), y -> y.order(0), JumpDesk.NONE);
    }

    private static void orderOfSix() {
        Due.part("promise 25: of six");
        Edge.Made carried = x -> {
            blow(x, 200, 0);
            x.plane(0, 20, 4000, 200, 40000);
            row(7, 3, 3, 3, 3, 3, 3).on(x);
        };
        Edge.done("the longest sum", with(carried, x -> x.rule(0, 3000)), x -> x.order(0), 300, x -> x.in(0, 35), 300);
        Edge.still("none", with(carried, x -> x.rule(0, 3001)), x -> x.order(0), JumpDesk.NONE);
        Edge.done("the shortest sum", with(carried, x -> x.rule(0, 0)), x -> x.order(0), 5, x -> x.in(0, 35), 5);
        // Who opens higher has to be behind, so that one order is left, by number the last of all or the first.
        for (int step = -1000; step <= 1000; step += 2000) {
            int by = step;
            Edge.Made steps = x -> {
                blow(x, 200, 0);
                x.plane(0, 20, 4000, 200, 40000);
                x.rule(0, 3001);
                x.load(0);
                for (int g = 0; g < 6; g++) {
                    x.group(0, 10000 + by * g - 5 * Math.min(by, 0), 0, 0);
                    x.put(0, g, 7);
                }
            };
            JumpDesk x = Edge.desk(steps);
            int sum = 0;
            for (int i = 1; i < 6; i++) {
                sum += by < 0 ? x.between(0, 6 - i, 5 - i) : x.between(0, i - 1, i);
                Due.due("not the other way about", by < 0 ? x.between(0, 5 - i, 6 - i) : x.between(0, i, i - 1), JumpDesk.NONE);
            }
            Due.due("the only order, by " + by, x.order(0), sum);
            for (int i = 0; i < 6; i++) {
                Due.due("at " + i, x.in(0, 10 + i), by < 0 ? 5 - i : i);
            }
        }
        // Ranks that leave one order alone, the last of all by number.
        Edge.Made one = x -> {
            x.load(0);
            int[] kinds = {3, 2, 1, 0};
            for (int g = 0; g < 4; g++) {
                x.group(kinds[g], 9000, 0, 0);
                x.put(0, g, 9);
            }
        };
        for (int i = 0; i < 4; i++) {
            int at = i;
            Edge.done("by ranks " + i, one, x -> x.order(0) > 0 ? 1 : 0, 1, x -> x.in(0, 10 + at), 3 - i);
        }
    }

    private static void orderBrings() {
        Due.part("promise 25: the load has it from now on, betweens being its pauses");
        JumpDesk x = Edge.desk(Scene::make);
        x.put(0, Scene.EMPTY_GROUP, 3);
        x.rule(7, 0);
        int best = Integer.MAX_VALUE;
        int[] lead = new int[3];
        int[] groups = {0, 1, 4};
        for (int n = 0; n < 27; n++) {
            int a = n / 9;
            int b = n / 3 % 3;
            int c = n % 3;
            if (a != b && b != c && a != c) {
                int sum = x.between(0, groups[a], groups[b]) + x.between(0, groups[b], groups[c]);
                if (sum < best) {
                    best = sum;
                    lead = new int[] {groups[a], groups[b], groups[c]};
                }
            }
        }
        Due.due("the sum", x.order(0), best);
        int second = 0;
        for (int i = 0; i < 3; i++) {
            int pause = i == 0 ? 1 : x.between(0, lead[i - 1], lead[i]);
            second += i == 0 ? 0 : pause;
            Due.due("group " + i, x.in(0, 10 + i), lead[i]);
            Due.due("pause " + i, x.in(0, 20 + i), pause);
            Due.due("second " + i, x.in(0, 30 + i), second);
        }
        Due.due("the start stays", x.in(0, 2), -4000);
        Due.due("how many", x.in(0, 1), 3);
        Due.due("the plane", x.in(0, 0), 0);
        Due.due("another load stays", x.in(1, 20), 7);
        Due.due("once more", x.order(0), best);
        Due.due("the same", x.in(0, 10), lead[0]);
        JumpDesk slow = Edge.desk(with(row(9, 0, 0), y -> y.plane(0, 10, 1000, 200, 40000)));
        Due.due("by its own plane", slow.order(0), slow.between(0, 0, 1));
        Due.holds("in another it is shorter", slow.between(1, 0, 1) < slow.between(0, 0, 1));
    }

    // ---- promise 26

    private static void spotRefused() {
        Due.part("promise 26: -100002, there is no such load");
        for (int what = 0; what <= 1; what++) {
            int end = what;
            Edge.outside("load, what " + what, Scene::make, (x, l) -> x.spot(l, end), 0, 2, NO_SPOT_ASKED);
            Edge.still("none at all", x -> { }, x -> x.spot(0, end), NO_SPOT_ASKED);
        }
        Due.part("promise 26: -100002, another what");
        for (int l = 0; l <= 2; l++) {
            int load = l;
            Edge.outside("what, load " + l, Scene::make, (x, what) -> x.spot(load, what), 0, 1, NO_SPOT_ASKED);
        }
        Edge.Made none = with(Scene::make, x -> {
            x.rule(1, 0);
            blow(x, 0, 300);
        });
        Edge.still("another what, and none such", none, x -> x.spot(0, 2), NO_SPOT_ASKED);
        Due.part("promise 26: -100001, there is none such");
        Edge.still("least", none, x -> x.spot(0, 0), NO_SPOT);
        Edge.still("greatest", none, x -> x.spot(0, 1), NO_SPOT);
        Due.part("promise 26: taken, it changes nothing");
        Edge.still("least", Scene::make, x -> x.spot(0, 0), Edge.desk(Scene::make).spot(0, 0));
        Edge.still("greatest", Scene::make, x -> x.spot(0, 1), Edge.desk(Scene::make).spot(0, 1));
    }

    private static void spotWithoutGroups() {
        Due.part("promise 26: any does without groups");
        Edge.still("least", Scene::make, x -> x.spot(Scene.EMPTY_LOAD, 0), -50000);
        Edge.still("greatest", Scene::make, x -> x.spot(Scene.EMPTY_LOAD, 1), 50000);
        Edge.Made small = with(Scene::make, x -> {
            x.rule(1, 0);
            blow(x, 300, 300);
            x.start(2, 777);
        });
        Edge.still("field 0, least", small, x -> x.spot(Scene.EMPTY_LOAD, 0), -50000);
        Edge.still("field 0, greatest", small, x -> x.spot(Scene.EMPTY_LOAD, 1), 50000);
    }

    /** One high one from 40000, with that wind along x all the way: 791 seconds, and 350 for its throw. */
    private static Edge.Made far(int wind, int field) {
        return x -> {
            row(9, 3).on(x);
            blow(x, wind, 0);
            x.rule(1, field);
            x.join(0, 0);
            x.rule(5, 180000);
        };
    }

    private static void spotAtTheEnds() {
        Due.part("promise 26: start, of -50000 to 50000");
        Due.due("it comes down at", Edge.desk(far(70, 0)).where(0, 0, 1000, 0), 55720);
        Edge.still("the first start only, least", far(70, 5720), x -> x.spot(0, 0), -50000);
        Edge.still("the first start only, greatest", far(70, 5720), x -> x.spot(0, 1), -50000);
        Edge.still("not even that, least", far(70, 5719), x -> x.spot(0, 0), NO_SPOT);
        Edge.still("not even that, greatest", far(70, 5719), x -> x.spot(0, 1), NO_SPOT);
        Edge.still("two starts", far(70, 5721), x -> x.spot(0, 1), -49999);
        Due.due("it comes down at", Edge.desk(far(-70, 0)).where(0, 0, 1000, 0), -55020);
        Edge.still("the last start only, least", far(-70, 5020), x -> x.spot(0, 0), 50000);
        Edge.still("the last start only, greatest", far(-70, 5020), x -> x.spot(0, 1), 50000);
        Edge.still("not even that, least", far(-70, 5019), x -> x.spot(0, 0), NO_SPOT);
        Edge.still("not even that, greatest", far(-70, 5019), x -> x.spot(0, 1), NO_SPOT);
        Edge.still("two starts", far(-70, 5021), x -> x.spot(0, 0), 49999);
        Edge.Made wide = x -> {
            x.group(3, 9000, 150, 0);
            x.load(0);
            x.put(0, 0, 9);
            x.rule(1, 20000);
        };
        Edge.still("all starts, least", wide, x -> x.spot(0, 0), -50000);
        Edge.still("all starts, greatest", wide, x -> x.spot(0, 1), 50000);
    }

    /** Of the starts that spot names, and the ones beside them, by what bars the load. */
    private static void endsOf(String what, Edge.Made made) {
        JumpDesk x = Edge.desk(made);
        int least = x.spot(0, 0);
        int greatest = x.spot(0, 1);
        x.start(0, least);
        Due.due(what + ": the least", x.why(0, 0), 0);
        Due.due(what + ": one less may be", x.start(0, least - 1), 1);
        Due.due(what + ": one less", x.why(0, 0), 11);
        x.start(0, greatest);
        Due.due(what + ": the greatest", x.why(0, 0), 0);
        Due.due(what + ": one more may be", x.start(0, greatest + 1), 1);
        Due.due(what + ": one more", x.why(0, 0), 11);
        Due.due(what + ": its own start doesn't count", x.spot(0, 0), least);
        Due.due(what + ": its own start doesn't count", x.spot(0, 1), greatest);
    }

    private static void spotOfOnePlace() {
        Due.part("terms 3: home, not above the square: field 0, forward 0");
        Edge.still("least", far(5, 0), x -> x.spot(0, 0), -350 - 791 * 5);
        Edge.still("greatest", far(5, 0), x -> x.spot(0, 1), -350 - 791 * 5);
        endsOf("field 0", far(5, 0));
        // It is in layer 10 for its first second alone: y is that second's wind.
        for (int y : new int[] {-2, -1, 1, 2}) {
            int reach = Math.abs(y);
            Edge.Made beside = with(far(0, 0), x -> x.wind(10, 0, y));
            Due.due("y", Edge.desk(beside).where(0, 0, 1000, 1), y);
            Edge.still("y " + y + ", field 0, least", beside, x -> x.spot(0, 0), NO_SPOT);
            Edge.still("y " + y + ", field 0, greatest", beside, x -> x.spot(0, 1), NO_SPOT);
            Edge.Made less = with(beside, x -> x.rule(1, reach - 1));
            Edge.still("y " + y + ", field one less", less, x -> x.spot(0, 0), NO_SPOT);
            Edge.Made just = with(beside, x -> x.rule(1, reach));
            Edge.still("y " + y + ", just, least", just, x -> x.spot(0, 0), -350);
            Edge.still("y " + y + ", just, greatest", just, x -> x.spot(0, 1), -350);
            endsOf("y " + y, just);
        }
        Due.part("terms 3: home, x and y together");
        // 79 seconds of 15 along y are 1185; with x 1580 that is 1975.
        Edge.Made aside = x -> {
            row(9, 0).on(x);
            x.join(0, 0);
            x.wind(0, 0, 15);
        };
        Due.due("aside", Edge.desk(aside).where(0, 0, 1000, 1), 1185);
        for (int side = -1; side <= 1; side += 2) {
            int to = side;
            Edge.Made made = with(aside, x -> x.wind(0, 0, 15 * to));
            Edge.Made whole = with(made, x -> x.rule(1, 1975));
            Edge.still("just, least", whole, x -> x.spot(0, 0), -397 - 1580);
            Edge.still("just, greatest", whole, x -> x.spot(0, 1), -397 + 1580);
            endsOf("just", whole);
            Edge.Made less = with(made, x -> x.rule(1, 1974));
            Edge.still("one less, least", less, x -> x.spot(0, 0), -397 - 1578);
            Edge.still("one less, greatest", less, x -> x.spot(0, 1), -397 + 1578);
            endsOf("one less", less);
            Edge.Made only = with(made, x -> x.rule(1, 1185));
            Edge.still("one place, least", only, x -> x.spot(0, 0), -397);
            Edge.still("one place, greatest", only, x -> x.spot(0, 1), -397);
            endsOf("one place", only);
            Edge.Made none = with(made, x -> x.rule(1, 1184));
            Edge.still("no place, least", none, x -> x.spot(0, 0), NO_SPOT);
            Edge.still("no place, greatest", none, x -> x.spot(0, 1), NO_SPOT);
        }
    }

    private static void spotByField() {
        Due.part("terms 3: field is 3000 at first");
        Edge.Made first = with(row(9, 0), x -> x.join(0, 0));
        Edge.still("least", first, x -> x.spot(0, 0), -397 - 3000);
        Edge.still("greatest", first, x -> x.spot(0, 1), -397 + 3000);
        endsOf("at first", first);
        Edge.Made most = with(first, x -> x.rule(1, 20000));
        Edge.still("20000, least", most, x -> x.spot(0, 0), -397 - 20000);
        Edge.still("20000, greatest", most, x -> x.spot(0, 1), -397 + 20000);
        endsOf("20000", most);
    }

    private static void spotByForward() {
        Due.part("terms 3: home, forward times how many seconds it was open, that in which it comes down, too");
        for (int kind = 0; kind <= 3; kind++) {
            int of = kind;
            Edge.Made made = x -> {
                x.group(of, 9000 + 70 * of, 3, 1);
                x.load(0);
                x.put(0, 0, 9);
                x.join(0, 0);
                x.rule(1, 9000);
            };
            int[][] way = way(made, 0);
            int open = 0;
            for (int[] at : way) {
                open += at[3] == OPEN ? 1 : 0;
            }
            JumpDesk x = Edge.desk(made);
            int y = way[1000][1];
            int reach = 9000 + 3 * open;
            int room = 0;
            while ((long) (room + 1) * (room + 1) + (long) y * y <= (long) reach * reach) {
                room++;
            }
            Due.due("kind " + kind + ", least", x.spot(0, 0), -way[1000][0] - room);
            Due.due("kind " + kind + ", greatest", x.spot(0, 1), -way[1000][0] + room);
            endsOf("kind " + kind, made);
        }
        // From 15010 it is open at 5510, 111 seconds ahead of coming down: the last of these is but 10 deep.
        Edge.Made low = x -> {
            x.plane(0, 10, 1000, 400, 15010);
            x.group(0, 6000, 150, 0);
            x.load(0);
            x.put(0, 0, 9);
            x.join(0, 0);
            x.rule(1, 0);
        };
        Edge.still("111 seconds", low, x -> x.spot(0, 0), -397 - 150 * 111);
        endsOf("111 seconds", low);
    }

    private static void spotByTwo() {
        Due.part("promise 26: with which all groups of a load come home");
        Edge.Made made = with(row(5, 0, 0), x -> {
            x.join(0, 0);
            x.join(1, 1);
        });
        Edge.Made just = with(made, x -> x.rule(1, 1000));
        Edge.still("one start, least", just, x -> x.spot(0, 0), -397 - 1000);
        Edge.still("one start, greatest", just, x -> x.spot(0, 1), -397 - 1000);
        endsOf("one start", just);
        Edge.still("none, least", with(made, x -> x.rule(1, 999)), x -> x.spot(0, 0), NO_SPOT);
        Edge.still("none, greatest", with(made, x -> x.rule(1, 999)), x -> x.spot(0, 1), NO_SPOT);
        Edge.Made three = with(made, x -> x.rule(1, 1001));
        Edge.still("three starts, least", three, x -> x.spot(0, 0), -397 - 1001);
        Edge.still("three starts, greatest", three, x -> x.spot(0, 1), -397 - 999);
        endsOf("three starts", three);
        Edge.Made six = row(10, 0, 0, 0, 0, 0, 0);
        Edge.still("six, one start", with(six, x -> x.rule(1, 10000)), x -> x.spot(0, 0), -397 - 10000);
        Edge.still("six, one start", with(six, x -> x.rule(1, 10000)), x -> x.spot(0, 1), -397 - 10000);
        Edge.still("six, none", with(six, x -> x.rule(1, 9999)), x -> x.spot(0, 0), NO_SPOT);
        // One that its y bars, whichever start, bars all, wherever it stands.
        for (int at = 0; at < 2; at++) {
            int aside = at;
            Edge.Made barred = x -> {
                x.load(0);
                for (int g = 0; g < 2; g++) {
                    x.group(g == aside ? 2 : 0, 9000, 0, 1);
                    x.put(0, g, 5);
                }
            };
            Due.holds("aside by more than 3000", Edge.desk(barred).where(0, aside, 1000, 1) > 3000);
            Edge.still("barred by its y, " + at, barred, x -> x.spot(0, 0), NO_SPOT);
            Edge.still("barred by its y, " + at, barred, x -> x.spot(0, 1), NO_SPOT);
        }
    }

    private static void spotAsThen() {
        Due.part("promise 26: wind and plane likewise");
        int least = Edge.desk(FlightEdges::aboutToLeave).spot(0, 0);
        int greatest = Edge.desk(FlightEdges::aboutToLeave).spot(0, 1);
        Edge.Made left = with(FlightEdges::aboutToLeave, x -> x.leave(0, 0));
        Edge.Call[] later = {x -> 1, x -> x.wind(0, -200, 150), x -> x.wind(1, 99, 98),
            x -> x.plane(1, 5, 500, 600, 47000)};
        for (Edge.Call call : later) {
            Edge.done("left, least", left, call, 1, x -> x.spot(0, 0), least);
            Edge.done("left, greatest", left, call, 1, x -> x.spot(0, 1), greatest);
        }
        int now = Edge.desk(Scene::make).spot(0, 0);
        Edge.Made blown = with(Scene::make, x -> x.wind(0, 12, -12));
        Due.due("not left: by the wind as it is", Edge.desk(blown).spot(0, 0), now - 79);
    }
}
