/** The boundary cases of promises 27 to 29, with LIMITS and RANK, sentence by sentence of the document. */
public final class LeaveEdges {
    private static final int DAY = 5;

    public static void main(String[] args) {
        whyRefused();
        left();
        withoutJumpers();
        seats();
        bears();
        gear();
        inTwo();
        learners();
        limits();
        ranks();
        free();
        home();
        eachAlone();
        firstOfSeveral();
        leaveRefused();
        leaveBarred();
        leaves();
        manyRefused();
        many();
        wentUp();
        Due.end();
    }

    private static Edge.Made with(Edge.Made first, Edge.Made then) {
        return x -> {
            first.on(x);
            then.on(x);
        };
    }

    /** Load 0 with flat groups 0 and 1 and high group 2: jumpers 0; 1; 2, a helper, and 3, a learner. */
    private static void ready(JumpDesk x) {
        x.plane(0, 5, 400, 400, 40000);
        x.rule(1, 20000);
        x.jumper(2, 2, 80, 1000);
        x.jumper(3, 1, 80, 1000);
        x.load(0);
        for (int g = 0; g < 4; g++) {
            x.group(g < 2 ? 0 : 3, 9000, 0, 0);
        }
        for (int j = 0; j < 4; j++) {
            x.join(Math.min(j, 2), j);
        }
        for (int g = 0; g < 3; g++) {
            x.put(0, g, 10);
        }
    }

    /** Brings what bars the load of ready by that number, 2 to 11, and none of the others ahead of it. */
    private static void bar(JumpDesk x, int by) {
        switch (by) {
            case 2 -> x.put(0, 3, 10);
            case 3 -> x.plane(0, 3, 400, 400, 40000);
            case 4 -> x.jumper(0, 0, 200, 1000);
            case 5 -> x.jumper(3, 1, 80, DAY - 1);
            case 6 -> x.join(1, 0);
            case 7 -> x.jumper(2, 0, 80, 1000);
            case 8 -> x.wind(0, 200, 0);
            case 9 -> {
                x.rule(6, 1);
                x.rule(9, 0);
            }
            case 10 -> x.pause(0, 1, 1);
            default -> x.start(0, 50000);
        }
    }

    private static Edge.Made barred(int by) {
        return with(LeaveEdges::ready, x -> bar(x, by));
    }

    private static void why(String what, Edge.Made made, int due) {
        Edge.still(what, made, x -> x.why(0, DAY), due);
    }

    // ---- promise 27

    private static void whyRefused() {
        Due.part("promise 27: there is no such load");
        Edge.outside("load", Scene::make, (x, l) -> x.why(l, DAY), 0, 2, JumpDesk.NUMBER);
        Edge.still("none at all", x -> { }, x -> x.why(0, DAY), JumpDesk.NUMBER);
        Due.part("promise 27: day isn't 0 to 1000");
        Edge.outside("day", LeaveEdges::ready, (x, day) -> x.why(0, day), 0, 1000, JumpDesk.NUMBER);
        Edge.still("day 0", LeaveEdges::ready, x -> x.why(0, 0), 0);
        Edge.still("day 1000", LeaveEdges::ready, x -> x.why(0, 1000), 0);
        Due.part("promise 27: NUMBER, whatever bars it");
        Edge.outside("left", Scene::make, (x, day) -> x.why(Scene.LEFT_LOAD, day), 0, 1000, JumpDesk.NUMBER);
        Edge.outside("empty", Scene::make, (x, day) -> x.why(Scene.EMPTY_LOAD, day), 0, 1000, JumpDesk.NUMBER);
        for (int by = 2; by <= 11; by++) {
            Edge.still("barred by " + by, barred(by), x -> x.why(0, 1001), JumpDesk.NUMBER);
            Edge.still("barred by " + by, barred(by), x -> x.why(0, -1), JumpDesk.NUMBER);
        }
    }

    private static void left() {
        Due.part("promise 27: 1 it has left");
        Edge.still("left", Scene::make, x -> x.why(Scene.LEFT_LOAD, DAY), 1);
        Edge.still("left, day 0", Scene::make, x -> x.why(Scene.LEFT_LOAD, 0), 1);
        Edge.still("left, day 1000", Scene::make, x -> x.why(Scene.LEFT_LOAD, 1000), 1);
        Edge.Made gone = with(LeaveEdges::ready, x -> x.leave(0, DAY));
        for (int by = 2; by <= 11; by++) {
            int then = by;
            why("left, then " + by, with(gone, x -> bar(x, then)), 1);
        }
    }

    private static void withoutJumpers() {
        Due.part("promise 27: 2 it has no groups");
        Edge.still("none", Scene::make, x -> x.why(Scene.EMPTY_LOAD, DAY), 2);
        why("none any more", with(LeaveEdges::ready, x -> {
            x.out(0, 0);
            x.out(0, 0);
            x.out(0, 0);
        }), 2);
        Due.part("promise 27: 2 or one has no jumpers");
        for (int at = 0; at < 6; at++) {
            int empty = at;
            Edge.Made six = x -> {
                x.rule(1, 20000);
                x.load(0);
                for (int g = 0; g < 6; g++) {
                    x.group(0, 9000, 0, 0);
                    x.put(0, g, 5);
                    if (g != empty) {
                        x.join(g, g);
                    }
                }
            };
            why("the one at " + at, six, 2);
            why("it gets one", with(six, x -> x.join(empty, 9)), 0);
            why("it goes out", with(six, x -> x.out(0, empty)), 0);
        }
        why("the only one", x -> {
            x.load(0);
            x.group(0, 9000, 0, 0);
            x.put(0, 0, 5);
        }, 2);
    }

    /** So many jumpers from number 0 on, four to a flat group, in load 0; nothing else bars it. */
    private static Edge.Made crowd(int jumpers) {
        return x -> {
            x.rule(1, 20000);
            x.load(0);
            for (int j = 0; j < jumpers; j++) {
                if (j % 4 == 0) {
                    x.group(0, 9000, 0, 0);
                    x.put(0, j / 4, 5);
                }
                x.join(j / 4, j);
            }
        };
    }

    private static Edge.Made seated(int jumpers, int seats) {
        return with(crowd(jumpers), x -> x.plane(0, seats, 4000, 400, 40000));
    }

    private static void seats() {
        Due.part("promise 27: 3 more jumpers than seats");
        for (int seats = 1; seats <= 20; seats++) {
            why("as many as seats, " + seats, seated(seats, seats), 0);
            why("one more than seats, " + seats, seated(seats + 1, seats), 3);
        }
        why("24 of 20", seated(24, 20), 3);
        Due.part("promise 27: 3, seats are 10 at first");
        why("10 of 10", crowd(10), 0);
        why("11 of 10", with(crowd(11), x -> x.jumper(0, 0, 40, 1000)), 3);
        Due.part("promise 27: 3, who is in two groups counts twice");
        Edge.Made twice = with(crowd(5), x -> x.join(1, 0));
        why("6 of 6", with(twice, x -> x.plane(0, 6, 4000, 400, 40000)), 6);
        why("6 of 5", with(twice, x -> x.plane(0, 5, 4000, 400, 40000)), 3);
        Edge.Made thrice = with(twice, x -> {
            x.group(0, 9000, 0, 0);
            x.put(0, 2, 5);
            x.join(2, 0);
        });
        why("one in three, 7 of 7", with(thrice, x -> x.plane(0, 7, 4000, 400, 40000)), 6);
        why("one in three, 7 of 6", with(thrice, x -> x.plane(0, 6, 4000, 400, 40000)), 3);
    }

    private static Edge.Made loaded(int jumpers, int weight, int bears) {
        return with(crowd(jumpers), x -> {
            x.plane(0, 20, bears, 400, 40000);
            for (int j = 0; j < jumpers; j++) {
                x.jumper(j, 0, weight, 1000);
            }
        });
    }

    private static void bears() {
        Due.part("promise 27: 4 more weight than its plane bears");
        why("100 of 100", loaded(1, 100, 100), 0);
        why("101 of 100", loaded(1, 101, 100), 4);
        why("40 of 100", loaded(1, 40, 100), 0);
        why("400 of 400", loaded(5, 80, 400), 0);
        why("400 of 399", loaded(5, 80, 399), 4);
        why("4000 of 4000", loaded(20, 200, 4000), 0);
        why("4000 of 3999", loaded(20, 200, 3999), 4);
        why("one lighter", with(loaded(20, 200, 3999), x -> x.jumper(19, 0, 199, 1000)), 0);
        Due.part("promise 27: 4, it bears 1000 at first, weights are 80 at first");
        Edge.Made ten = with(crowd(10), x -> {
            for (int j = 0; j < 5; j++) {
                x.jumper(j, 0, 120, 1000);
            }
        });
        why("1000 of 1000", ten, 0);
        why("1001 of 1000", with(ten, x -> x.jumper(9, 0, 81, 1000)), 4);
        Due.part("promise 27: 4, of its plane");
        why("another plane bears less", with(loaded(2, 200, 400), x -> x.plane(1, 1, 100, 400, 40000)), 0);
    }

    private static void gear() {
        Due.part("promise 27: 5 gear isn't good any more (its day is below this one)");
        for (int day : new int[] {0, 1, 500, 999, 1000}) {
            for (int j = 0; j < 5; j++) {
                int worn = j;
                Edge.Made made = with(crowd(5), x -> x.jumper(worn, 0, 80, day));
                Edge.still("gear of " + j + " on its day " + day, made, x -> x.why(0, day), 0);
                if (day < 1000) {
                    Edge.still("gear of " + j + " a day behind " + day, made, x -> x.why(0, day + 1), 5);
                    Edge.still("gear of " + j + " at the end", made, x -> x.why(0, 1000), 5);
                }
                Edge.still("gear of " + j + " on day 0", made, x -> x.why(0, 0), 0);
            }
        }
        Due.part("promise 27: 5, days are 1000 at first");
        Edge.still("at first", crowd(5), x -> x.why(0, 1000), 0);
        Edge.still("who isn't in it", with(crowd(5), x -> x.jumper(5, 0, 80, 0)), x -> x.why(0, 1000), 0);
    }

    private static void inTwo() {
        Due.part("promise 27: 6 a jumper is in two of its groups");
        for (int first = 0; first < 6; first++) {
            for (int second = 0; second < first; second++) {
                int g = first;
                int h = second;
                Edge.Made made = x -> {
                    crowdOfSix(x);
                    x.join(g, 30);
                    x.join(h, 30);
                };
                why("in " + h + " and " + g, made, 6);
                why("one of them went out", with(made, x -> x.out(0, g)), 0);
            }
        }
        Due.part("promise 27: 6, whichever of its jumpers");
        for (int n = 0; n < 16; n++) {
            int first = n / 4;
            int second = n % 4;
            Edge.Made full = x -> {
                x.rule(1, 20000);
                x.load(0);
                for (int g = 0; g < 2; g++) {
                    x.group(0, 9000, 0, 0);
                    x.put(0, g, 5);
                    for (int i = 0; i < 4; i++) {
                        x.join(g, i == (g == 0 ? first : second) ? 31 : 4 * g + i);
                    }
                }
            };
            why("the one at " + first + " is the one at " + second, full, 6);
        }
        Due.part("promise 27: 6, of its groups");
        why("the other one is in no load", with(crowd(4), x -> {
            x.group(0, 9000, 0, 0);
            x.join(1, 0);
        }), 0);
        why("the other one is in another load", with(crowd(4), x -> {
            x.group(0, 9000, 0, 0);
            x.join(1, 0);
            x.load(1);
            x.put(1, 1, 5);
        }), 0);
    }

    private static void crowdOfSix(JumpDesk x) {
        x.rule(1, 20000);
        x.load(0);
        for (int g = 0; g < 6; g++) {
            x.group(0, 9000, 0, 0);
            x.put(0, g, 5);
            x.join(g, g);
        }
    }

    /** One group of that kind with these sorts, in load 0; helpers and learners as they come. */
    private static Edge.Made sorts(int kind, int... sorts) {
        return x -> {
            x.rule(1, 20000);
            x.load(0);
            x.group(kind, 9000, 0, 0);
            x.put(0, 0, 5);
            for (int j = 0; j < sorts.length; j++) {
                x.jumper(j, sorts[j], 80, 1000);
                x.join(0, j);
            }
        };
    }

    private static void learners() {
        Due.part("promise 27: 7 a group has more learners than helpers");
        for (int n = 0; n < 81; n++) {
            int[] sorts = {n / 27, n / 9 % 3, n / 3 % 3, n % 3};
            for (int count = 1; count <= 4; count++) {
                int[] some = java.util.Arrays.copyOf(sorts, count);
                int learners = 0;
                int helpers = 0;
                for (int sort : some) {
                    learners += sort == 1 ? 1 : 0;
                    helpers += sort == 2 ? 1 : 0;
                }
                for (int kind = 0; kind <= 3; kind++) {
                    boolean barred = learners > helpers || learners > 0 && kind != 3;
                    int due = barred ? 7 : 0;
                    Due.due("kind " + kind + " row " + n, Edge.desk(sorts(kind, some)).why(0, DAY), due);
                }
            }
        }
        why("as many learners as helpers", sorts(3, 1, 1, 2, 2), 0);
        why("one more", sorts(3, 1, 1, 1, 2), 7);
        why("a learner alone", sorts(3, 1), 7);
        why("a learner and a plain one", sorts(3, 1, 0), 7);
        Due.part("promise 27: 7, or has a learner and isn't high");
        for (int kind = 0; kind <= 2; kind++) {
            why("kind " + kind, sorts(kind, 1, 2, 2, 2), 7);
            why("kind " + kind + ", helpers alone", sorts(kind, 2, 2, 2, 2), 0);
            why("kind " + kind + ", plain ones", sorts(kind, 0, 0, 0, 0), 0);
        }
        Due.part("promise 27: 7, sorts are 0 at first");
        why("at first", crowd(4), 0);
        Due.part("promise 27: 7, a group, not the load");
        Edge.Made elsewhere = with(sorts(3, 1), x -> {
            x.group(3, 9000, 0, 0);
            x.jumper(8, 2, 80, 1000);
            x.join(1, 8);
            x.put(0, 1, 30);
        });
        why("the helper is behind", elsewhere, 7);
        why("the helper is ahead", with(elsewhere, x -> {
            x.out(0, 0);
            x.put(0, 0, 30);
        }), 7);
    }

    /** A group of each of two kinds in load 0, all ranks alike. */
    private static Edge.Made kinds(int... kinds) {
        return x -> {
            x.rule(0, 0);
            x.rule(1, 20000);
            x.load(0);
            for (int g = 0; g < kinds.length; g++) {
                x.group(kinds[g], 9000, 100, 0);
                x.put(0, g, 5);
                x.join(g, g);
                x.rule(6 + g, 1);
            }
        };
    }

    private static void limits() {
        Due.part("promise 27: 8 limits are below the wind of layer 0");
        int[][] winds = {{0, 0}, {1, 0}, {0, -1}, {-3, 4}, {100, 100}, {-100, 100}, {300, 0}, {0, -300}, {200, -300}};
        for (int kind = 0; kind <= 3; kind++) {
            int of = kind;
            for (int[] wind : winds) {
                int square = wind[0] * wind[0] + wind[1] * wind[1];
                Edge.Made made = with(kinds(kind), x -> {
                    x.wind(0, wind[0], wind[1]);
                    x.start(0, -79 * wind[0]);
                });
                String what = "kind " + kind + " wind " + square;
                Edge.Made just = with(made, x -> x.rule(2 + of, square));
                Due.holds(what + ", the square", Edge.desk(just).why(0, DAY) != 8);
                if (square > 0) {
                    why(what + ", one less", with(made, x -> x.rule(2 + of, square - 1)), 8);
                }
            }
            Edge.Made most = with(kinds(kind), x -> x.wind(0, -300, 300));
            why("kind " + kind + ", 179999", with(most, x -> x.rule(2 + of, 179999)), 8);
            why("kind " + kind + ", 180000", with(most, x -> x.rule(2 + of, 180000)), 0);
            why("kind " + kind + ", at first, 20000", with(kinds(kind), x -> x.wind(0, 100, -100)), 0);
            why("kind " + kind + ", at first, 20201", with(kinds(kind), x -> x.wind(0, 100, -101)), 8);
            for (int other = 0; other <= 3; other++) {
                int than = other;
                Edge.Made blown = with(kinds(kind), x -> {
                    x.wind(0, 1, 0);
                    x.rule(2 + than, 0);
                });
                why("kind " + kind + ", limits of " + other, blown, kind == other ? 8 : 0);
                Edge.Made both = with(kinds(kind, 0, 1, 2, 3), x -> {
                    x.wind(0, 1, 0);
                    x.rule(2 + than, 0);
                });
                why("one of all kinds, " + other, both, 8);
            }
            why("kind " + kind + ", layer 1", with(kinds(kind), x -> x.wind(1, 100, -101)), 0);
        }
    }

    private static void ranks() {
        Due.part("promise 27: 9 ranks don't allow its order");
        for (int n = 0; n < 256; n++) {
            int[] ranks = {n / 64, n / 16 % 4, n / 4 % 4, n % 4};
            boolean falls = ranks[0] > ranks[1] || ranks[1] > ranks[2] || ranks[2] > ranks[3];
            JumpDesk x = Edge.desk(kinds(0, 1, 2, 3));
            for (int kind = 0; kind <= 3; kind++) {
                x.rule(6 + kind, ranks[kind]);
            }
            Due.due("ranks " + n, x.why(0, DAY), falls ? 9 : 0);
        }
        Edge.Made two = kinds(1, 2);
        why("the same rank", with(two, x -> x.rule(8, 1)), 0);
        why("a greater one behind", with(two, x -> x.rule(8, 2)), 0);
        why("a lesser one behind", with(two, x -> x.rule(8, 0)), 9);
        why("a lesser one ahead", with(two, x -> x.rule(7, 0)), 0);
        why("0 and 3", with(two, x -> {
            x.rule(7, 0);
            x.rule(8, 3);
        }), 0);
        why("3 and 0", with(two, x -> {
            x.rule(7, 3);
            x.rule(8, 0);
        }), 9);
        why("one alone", with(kinds(3), x -> x.rule(9, 3)), 0);
        Due.part("promise 27: 9, the kind's number at first");
        for (int kind = 0; kind <= 3; kind++) {
            for (int other = 0; other <= 3; other++) {
                int ahead = kind;
                int behind = other;
                Edge.Made first = x -> {
                    x.rule(0, 0);
                    x.rule(1, 20000);
                    x.load(0);
                    x.group(ahead, 9000, 0, 0);
                    x.group(behind, 9000, 0, 0);
                    x.join(0, 0);
                    x.join(1, 1);
                    x.put(0, 0, 5);
                    x.put(0, 1, 5);
                };
                why("kind " + kind + " ahead of " + other, first, kind > other ? 9 : 0);
            }
        }
    }

    private static void free() {
        Due.part("promise 27: 10 two of its groups aren't free");
        // From 200 a second and a wind of 200 two high ones with 60 seconds between are 3000 apart in height alone.
        Edge.Made apart = x -> {
            x.plane(0, 10, 1000, 200, 15000);
            x.wind(3, 200, 0);
            x.wind(2, 200, 0);
            x.rule(1, 20000);
            x.load(0);
            for (int g = 0; g < 2; g++) {
                x.group(3, 9000, 0, 0);
                x.join(g, g);
                x.put(0, g, 60);
            }
            x.start(0, x.spot(0, 0));
        };
        Due.due("3000 apart", Edge.desk(apart).near(0, 0, 1), 9000000);
        why("its square", with(apart, x -> x.rule(0, 3000)), 0);
        why("below its square", with(apart, x -> x.rule(0, 3001)), 10);
        why("above its square", with(apart, x -> x.rule(0, 2999)), 0);
        why("free 0", with(apart, x -> {
            x.rule(0, 0);
            x.pause(0, 1, 1);
        }), 0);
        why("free 5000", with(apart, x -> x.rule(0, 5000)), 10);
        Due.part("promise 27: 10, free is 1000 at first");
        Edge.Made flat = with(LeaveEdges::crowdOfSix, x -> x.start(0, x.spot(0, 0)));
        why("at first", flat, 0);
        for (int at = 1; at < 6; at++) {
            int near = at;
            Edge.Made two = with(LeaveEdges::crowdOfSix, x -> x.pause(0, near, 2));
            why("2 seconds ahead of " + at, two, 10);
            Edge.Made three = with(LeaveEdges::crowdOfSix, x -> x.pause(0, near, 3));
            why("3 seconds ahead of " + at, three, 0);
        }
        why("ahead of the first it counts nothing", with(LeaveEdges::crowdOfSix, x -> x.pause(0, 0, 1)), 0);
        outerOnes();
    }

    /** Each two that follow each other are free, the outer ones not: the wind carries the first one to the last. */
    private static void outerOnes() {
        Due.part("promise 27: 10, two of its groups that don't follow each other");
        Edge.Made made = x -> {
            int[] kinds = {2, 2, 0};
            int[] pauses = {1, 27, 20};
            for (int layer = 0; layer < 12; layer++) {
                x.wind(layer, 150, 0);
            }
            x.plane(0, 10, 1000, 200, 40000);
            x.rule(0, 5000);
            x.rule(1, 20000);
            x.load(0);
            for (int g = 0; g < 3; g++) {
                x.group(kinds[g], 9000, 150, g);
                x.join(g, g);
                x.put(0, g, pauses[g]);
                x.rule(2 + kinds[g], 180000);
                x.rule(6 + kinds[g], 0);
            }
            x.start(0, x.spot(0, 0));
        };
        JumpDesk x = Edge.desk(made);
        Due.holds("0 and 1", x.near(0, 0, 1) >= 25000000);
        Due.holds("1 and 2", x.near(0, 1, 2) >= 25000000);
        Due.holds("0 and 2", x.near(0, 0, 2) < 25000000);
        why("the outer ones", made, 10);
        why("free just less", with(made, y -> y.rule(0, 1000)), 0);
    }

    private static void home() {
        Due.part("promise 27: 11 one doesn't come home");
        Edge.Made one = with(crowd(1), x -> x.rule(1, 1975));
        why("the farthest ahead", with(one, x -> x.start(0, 1975 - 397)), 0);
        why("one more", with(one, x -> x.start(0, 1976 - 397)), 11);
        why("the farthest behind", with(one, x -> x.start(0, -1975 - 397)), 0);
        why("one less", with(one, x -> x.start(0, -1976 - 397)), 11);
        // 79 seconds of 15 along y are 1185; with x 1580 that is 1975.
        for (int side = -1; side <= 1; side += 2) {
            int y = 15 * side;
            Edge.Made aside = with(one, x -> x.wind(0, 0, y));
            why("aside, the farthest ahead", with(aside, x -> x.start(0, 1580 - 397)), 0);
            why("aside, one more", with(aside, x -> x.start(0, 1581 - 397)), 11);
            why("aside, the farthest behind", with(aside, x -> x.start(0, -1580 - 397)), 0);
            why("aside, one less", with(aside, x -> x.start(0, -1581 - 397)), 11);
        }
        Due.part("promise 27: 11, field 0 and forward 0");
        Edge.Made nought = with(crowd(1), x -> x.rule(1, 0));
        why("at the middle", with(nought, x -> x.start(0, -397)), 0);
        why("one beside", with(nought, x -> x.start(0, -396)), 11);
        why("one aside", with(nought, x -> {
            x.start(0, -397);
            x.wind(10, 0, 1);
        }), 11);
        why("one aside, field 1", with(nought, x -> {
            x.start(0, -397);
            x.wind(10, 0, -1);
            x.rule(1, 1);
        }), 0);
        Due.part("promise 27: 11, one of six");
        for (int at = 0; at < 6; at++) {
            int far = at;
            Edge.Made six = x -> {
                x.rule(1, 20000);
                x.load(0);
                for (int g = 0; g < 6; g++) {
                    x.group(2, g == far ? 6000 : 15000, 0, 1);
                    x.join(g, g);
                    x.put(0, g, 3);
                }
                x.start(0, -397 - 3000);
                x.rule(0, 0);
            };
            JumpDesk x = Edge.desk(six);
            Due.holds("it comes down farther aside", x.where(0, at, 1000, 1) > x.where(0, (at + 1) % 6, 1000, 1));
            x.rule(1, x.where(0, at, 1000, 1) - 1);
            Due.due("the one at " + at, x.why(0, DAY), 11);
            x.out(0, at);
            Due.due("without it", x.why(0, DAY), 0);
        }
    }

    private static void eachAlone() {
        Due.part("promise 27: 0 nothing");
        why("ready", LeaveEdges::ready, 0);
        Due.part("promise 27: each alone");
        for (int by = 2; by <= 11; by++) {
            why("barred by " + by, barred(by), by);
        }
    }

    private static void firstOfSeveral() {
        Due.part("promise 27: the first of these");
        for (int set = 1; set < 1 << 10; set++) {
            JumpDesk x = Edge.desk(LeaveEdges::ready);
            int first = 0;
            for (int by = 11; by >= 2; by--) {
                if ((set >> by - 2 & 1) == 1) {
                    bar(x, by);
                    first = by;
                }
            }
            Due.due("of these " + set, x.why(0, DAY), first);
            Due.due("it doesn't leave, " + set, x.leave(0, DAY), JumpDesk.STATE);
        }
    }

    // ---- promise 28

    private static void leaveRefused() {
        Due.part("promise 28: NUMBER, there is no such load");
        Edge.outside("load", Scene::make, (x, l) -> x.leave(l, DAY), 0, 2, JumpDesk.NUMBER);
        Edge.still("none at all", x -> { }, x -> x.leave(0, DAY), JumpDesk.NUMBER);
        Due.part("promise 28: NUMBER, day isn't 0 to 1000");
        Edge.outside("day", LeaveEdges::ready, (x, day) -> x.leave(0, day), 0, 1000, JumpDesk.NUMBER);
        Edge.done("day 0", LeaveEdges::ready, x -> x.leave(0, 0), 4, x -> x.in(0, 3), 1);
        Edge.done("day 1000", LeaveEdges::ready, x -> x.leave(0, 1000), 4, x -> x.in(0, 3), 1);
        Due.part("promise 28: of several refusals the first one named");
        Edge.outside("left", Scene::make, (x, day) -> x.leave(Scene.LEFT_LOAD, day), 0, 1000, JumpDesk.NUMBER);
        Edge.outside("empty", Scene::make, (x, day) -> x.leave(Scene.EMPTY_LOAD, day), 0, 1000, JumpDesk.NUMBER);
        for (int by = 2; by <= 11; by++) {
            Edge.still("barred by " + by, barred(by), x -> x.leave(0, 1001), JumpDesk.NUMBER);
        }
    }

    private static void leaveBarred() {
        Due.part("promise 28: STATE, something bars it");
        Edge.still("1", Scene::make, x -> x.leave(Scene.LEFT_LOAD, DAY), JumpDesk.STATE);
        Edge.still("2", Scene::make, x -> x.leave(Scene.EMPTY_LOAD, DAY), JumpDesk.STATE);
        for (int by = 2; by <= 11; by++) {
            Edge.still("" + by, barred(by), x -> x.leave(0, DAY), JumpDesk.STATE);
        }
        Edge.still("twice", with(LeaveEdges::ready, x -> x.leave(0, DAY)), x -> x.leave(0, DAY), JumpDesk.STATE);
        Edge.done("gear on its day", barred(5), x -> x.leave(0, DAY - 1), 4, x -> x.many(2), 1);
    }

    private static void leaves() {
        Due.part("promise 28: a load leaves: how many jumpers");
        for (int jumpers : new int[] {1, 2, 4, 5, 19, 20}) {
            Edge.Made made = seated(jumpers, jumpers);
            Edge.done("" + jumpers, made, x -> x.leave(0, DAY), jumpers, x -> x.many(3), jumpers);
            Edge.done("" + jumpers, made, x -> x.leave(0, DAY), jumpers, x -> x.in(0, 3), 1);
            Edge.done("" + jumpers, made, x -> x.leave(0, DAY), jumpers, x -> x.many(2), 1);
        }
        Edge.Made going = with(LeaveEdges::ready, x -> {
            x.plane(0, 5, 400, 350, 38000);
            x.wind(9, 40, -30);
            x.wind(0, -10, 20);
        });
        JumpDesk x = Edge.desk(going);
        JumpDesk was = Edge.desk(going);
        Due.due("4", x.leave(0, DAY), 4);
        for (int what : new int[] {0, 1, 2, 10, 11, 12, 20, 21, 22, 30, 31, 32}) {
            Due.due("in " + what + " stays", x.in(0, what), was.in(0, what));
        }
        for (int i = 0; i < 3; i++) {
            for (int what = 0; what < 4; what++) {
                Due.due("where " + i + " stays", x.where(0, i, 100, what), was.where(0, i, 100, what));
            }
        }
        Due.due("its groups may go up once more", x.load(0), 1);
        Due.due("its groups may go up once more", x.put(1, 0, 5), 1);
        Due.due("and again", x.leave(1, DAY), 1);
        Due.due("five went up", x.many(3), 5);
    }

    // ---- promise 29

    private static void manyRefused() {
        Due.part("promise 29: -1 for another what");
        Edge.outside("what", Scene::make, (x, what) -> x.many(what), 0, 3, -1);
        Edge.outside("what, nothing there", x -> { }, (x, what) -> x.many(what), 0, 3, -1);
        Due.part("promise 29: nothing there");
        for (int what = 0; what <= 3; what++) {
            int of = what;
            Edge.still("what " + what, x -> { }, x -> x.many(of), 0);
        }
        Due.part("promise 29: it changes nothing");
        int[] due = {5, 3, 1, 2};
        for (int what = 0; what <= 3; what++) {
            int of = what;
            Edge.still("what " + what, Scene::make, x -> x.many(of), due[what]);
        }
    }

    private static void many() {
        Due.part("promise 29: how many");
        JumpDesk x = new JumpDesk();
        for (int g = 0; g < 20; g++) {
            Due.due("groups", x.many(0), g);
            x.group(4, 9000, 0, 0);
            Due.due("one refused", x.many(0), g);
            x.group(g % 4, 9000, 0, 0);
        }
        Due.due("20 groups", x.many(0), 20);
        Due.due("full", x.group(0, 9000, 0, 0), JumpDesk.FULL);
        Due.due("20 groups still", x.many(0), 20);
        for (int l = 0; l < 12; l++) {
            Due.due("loads", x.many(1), l);
            x.load(3);
            Due.due("one refused", x.many(1), l);
            x.load(l % 3);
        }
        Due.due("12 loads", x.many(1), 12);
        Due.due("full", x.load(0), JumpDesk.FULL);
        Due.due("12 loads still", x.many(1), 12);
        Due.due("none left", x.many(2), 0);
        Due.due("none up", x.many(3), 0);
    }

    private static void wentUp() {
        Due.part("promise 29: who went up twice counts twice");
        JumpDesk x = Edge.desk(seated(20, 20));
        for (int l = 0; l < 12; l++) {
            Due.due("loads that have left", x.many(2), l);
            Due.due("went up", x.many(3), 20 * l);
            if (l > 0) {
                x.load(0);
                for (int g = 0; g < 5; g++) {
                    x.put(l, g, 5);
                }
            }
            Due.due("put, not left", x.many(3), 20 * l);
            Due.due("left", x.leave(l, DAY), 20);
            Due.due("not once more", x.leave(l, DAY), JumpDesk.STATE);
        }
        Due.due("12 of 12", x.many(2), 12);
        Due.due("240", x.many(3), 240);
        Due.part("promise 29: a jumper in two groups, each in a load of its own");
        Edge.Made both = x2 -> {
            x2.rule(1, 20000);
            for (int l = 0; l < 2; l++) {
                x2.group(0, 9000, 0, 0);
                x2.join(l, 7);
                x2.load(l);
                x2.put(l, l, 5);
                x2.leave(l, DAY);
            }
        };
        Edge.still("2", both, y -> y.many(3), 2);
        Edge.still("2 loads", both, y -> y.many(2), 2);
        Due.part("promise 29: those that are in its groups, not in others");
        Edge.done("another group", both, y -> y.group(0, 9000, 0, 0), 2, y -> {
            y.join(2, 9);
            return y.many(3);
        }, 2);
        Edge.done("no one comes to them later", both, y -> y.join(0, 9), JumpDesk.STATE, y -> y.many(3), 2);
    }
}
