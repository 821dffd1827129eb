import java.util.ArrayList;
import java.util.List;

/**
 * What the desk tells is by what is there when it is asked: what was asked before counts nothing. A load that has
 * left goes by the wind and the plane of then, each load by its own.
 */
public final class NowTest {
    public static void main(String[] args) {
        changes();
        betweens();
        twoThatLeft();
        newOnesBesideUsedOnes();
        Due.end();
    }

    /** Load 0 of plane 1 with all kinds, load 1 of plane 2 with two groups, load 2 of plane 1 has left. */
    private static void make(JumpDesk x) {
        for (int layer = 0; layer < 12; layer++) {
            x.wind(layer, 3 * layer - 10, 20 - 4 * layer);
        }
        x.sheet(0, 2);
        x.cell(0, 0, 3, 0);
        x.cell(0, 1, -2, 0);
        x.plane(1, 9, 900, 330, 42000);
        x.plane(2, 5, 500, 250, 31000);
        x.rule(0, 1500);
        x.rule(1, 19000);
        int[] kinds = {0, 1, 2, 3, 3, 1, 0, 0};
        for (int g = 0; g < kinds.length; g++) {
            x.group(kinds[g], 7000 + 900 * g, 10 * g, g % 4);
            x.join(g, g);
        }
        for (int l = 0; l < 3; l++) {
            x.load(l == 1 ? 2 : 1);
        }
        for (int i = 0; i < 4; i++) {
            x.put(0, i, 9 + 2 * i);
        }
        x.put(1, 5, 5);
        x.put(1, 4, 20);
        x.put(2, 6, 4);
        for (int l = 0; l < 3; l++) {
            x.start(l, x.spot(l, 0));
        }
        x.leave(2, 7);
    }

    private static List<Long> ask(JumpDesk x) {
        List<Long> told = new ArrayList<>(Look.at(x, Look.WAYS));
        int[][] pairs = {{0, 1}, {1, 0}, {2, 3}, {3, 0}, {4, 5}, {5, 4}, {6, 7}};
        for (int p = 0; p < 3; p++) {
            for (int[] pair : pairs) {
                told.add((long) x.between(p, pair[0], pair[1]));
            }
        }
        return told;
    }

    private static List<Long> ordered(JumpDesk x) {
        List<Long> told = new ArrayList<>();
        for (int l = 0; l < 2; l++) {
            told.add((long) x.order(l));
            for (int i = 0; i < 6; i++) {
                told.add((long) x.in(l, 10 + i));
                told.add((long) x.in(l, 20 + i));
            }
        }
        return told;
    }

    /** The change is seen, and seen likewise by one that was asked and by one that was not. */
    private static void asked(String what, Edge.Call change) {
        JumpDesk askedBefore = Edge.desk(NowTest::make);
        List<Long> before = ask(askedBefore);
        JumpDesk fresh = Edge.desk(NowTest::make);
        Due.due(what, change.on(askedBefore), change.on(fresh));
        List<Long> then = ask(fresh);
        Due.holds(what + ": it is seen", !before.equals(then));
        Due.holds(what + ": what was asked before counts nothing", ask(askedBefore).equals(then));
    }

    private static void orderedBefore(String what, Edge.Call change) {
        JumpDesk orderedBefore = Edge.desk(NowTest::make);
        List<Long> before = ordered(orderedBefore);
        JumpDesk fresh = Edge.desk(NowTest::make);
        Due.due(what, change.on(orderedBefore), change.on(fresh));
        List<Long> then = ordered(fresh);
        Due.holds(what + ": it is seen by the orders", !before.equals(then));
        Due.holds(what + ": the orders before count nothing", ordered(orderedBefore).equals(then));
    }

    private static void changes() {
        Due.part("terms 1: the wind, as it is");
        for (int layer = 0; layer <= 10; layer++) {
            int at = layer;
            asked("wind of layer " + at, x -> x.wind(at, 55, -44));
        }
        asked("winds from sheets", x -> x.winds(0, 0));
        orderedBefore("wind", x -> x.wind(10, 300, 0));
        orderedBefore("winds from sheets", x -> {
            x.cell(0, 0, 30, 0);
            x.gap(0, 1);
            return x.winds(0, 0);
        });
        Due.part("terms 2: jumpers and groups, as they are");
        asked("gear", x -> x.jumper(0, 0, 80, 999));
        asked("weight", x -> x.jumper(5, 0, 200, 1000) + x.jumper(4, 0, 200, 1000) + x.plane(2, 5, 399, 250, 31000));
        asked("sort", x -> x.jumper(1, 1, 80, 1000));
        asked("a jumper comes into a group", x -> x.join(0, 1));
        Due.part("terms 3: planes, as they are");
        asked("seats", x -> x.plane(1, 3, 900, 330, 42000));
        asked("bears", x -> x.plane(1, 9, 319, 330, 42000));
        asked("speed", x -> x.plane(1, 9, 900, 331, 42000));
        asked("height", x -> x.plane(1, 9, 900, 330, 42001));
        asked("another plane", x -> x.plane(2, 5, 500, 600, 16000));
        orderedBefore("speed", x -> x.plane(1, 9, 900, 600, 42000));
        orderedBefore("height", x -> x.plane(1, 9, 900, 330, 16000));
        Due.part("terms 3: rules, as they are");
        asked("free", x -> x.rule(0, 5000));
        asked("field", x -> x.rule(1, 9000));
        for (int kind = 0; kind < 4; kind++) {
            int of = kind;
            asked("limits of kind " + of, x -> x.rule(2 + of, 0));
        }
        asked("rank of flat", x -> x.rule(6, 2));
        asked("rank of fast", x -> x.rule(7, 3));
        asked("rank of track", x -> x.rule(8, 0));
        asked("rank of high", x -> x.rule(9, 1));
        orderedBefore("free", x -> x.rule(0, 4000));
        orderedBefore("rank", x -> x.rule(9, 0));
        orderedBefore("rank", x -> x.rule(6, 3));
        Due.part("terms 3: loads, as they are");
        asked("a group comes", x -> x.put(0, 7, 3));
        asked("a group goes", x -> x.out(0, 0));
        asked("a pause", x -> x.pause(0, 1, 60));
        asked("a start", x -> x.start(0, 49999));
        asked("an order", x -> x.order(0));
        asked("it leaves", x -> x.leave(1, 5));
        orderedBefore("a group comes", x -> x.put(0, 7, 3));
        orderedBefore("a group of another load comes", x -> x.out(1, 1) + x.put(0, x.in(1, 10) == 4 ? 5 : 4, 3));
    }

    /** The wind goes on as fast as plane 2: there the pauses between are long, and all that changes changes them. */
    private static void carried(JumpDesk x) {
        x.sheet(0, 1);
        x.cell(0, 0, 17, 0);
        for (int layer = 0; layer < 12; layer++) {
            x.wind(layer, 200, 0);
        }
        x.plane(2, 9, 900, 200, 40000);
        x.load(2);
        for (int g = 0; g < 3; g++) {
            x.group(3, 9000, 0, 0);
            x.put(0, g, 5);
        }
    }

    private static void between(String what, int due, Edge.Call change, int dueThen) {
        JumpDesk x = Edge.desk(NowTest::carried);
        Due.due(what + ", ahead", x.between(2, 0, 1), due);
        Due.due(what + ", the order ahead", x.order(0), 2 * due);
        Due.holds(what, change.on(x) >= 0);
        Due.due(what + ", then", x.between(2, 0, 1), dueThen);
        Due.due(what + ", the order then", x.order(0), 2 * dueThen);
        Due.due(what + ", its pause then", x.in(0, 21), dueThen);
    }

    private static void betweens() {
        Due.part("promises 24 and 25: by wind, plane and free as they are");
        between("free 1000, 2000", 20, x -> x.rule(0, 2000), 40);
        between("free 1000, 2001", 20, x -> x.rule(0, 2001), 41);
        // Without wind: at 4 seconds they are 902 apart as the second leaves, at 5 seconds 1082.
        between("wind", 20, x -> {
            for (int layer = 0; layer < 12; layer++) {
                x.wind(layer, 0, 0);
            }
            return 1;
        }, 5);
        between("the wind of sheets", 20, x -> {
            x.cell(0, 0, 0, 0);
            return x.winds(0, 0);
        }, 5);
        between("speed", 20, x -> x.plane(2, 9, 900, 600, 40000), 4);
        between("another plane", 20, x -> x.plane(1, 9, 900, 600, 40000), 20);
        between("jumpers", 20, x -> x.join(0, 1), 20);
    }

    /** One load after the other leaves plane 0, by other winds and another speed and height each time. */
    private static void twoThatLeft() {
        Due.part("promises 22, 23, 26: of a load that has left by these as they were then, each by its own");
        JumpDesk x = new JumpDesk();
        List<List<Long>> then = new ArrayList<>();
        x.rule(1, 20000);
        x.rule(0, 900);
        for (int l = 0; l < 3; l++) {
            for (int layer = 0; layer < 12; layer++) {
                x.wind(layer, 15 * l - layer, 7 * layer - 40 * l);
            }
            x.plane(0, 10, 1000, 300 + 50 * l, 30000 + 4000 * l);
            x.load(0);
            for (int i = 0; i < 2; i++) {
                int g = x.group(i, 9000 + 100 * l, 20, 0);
                x.join(g, g);
                x.put(l, g, 12 - l);
            }
            x.start(l, x.spot(l, 0));
            then.add(way(x, l));
            Due.due("load " + l + " leaves", x.leave(l, 3), 2);
        }
        for (int l = 0; l < 3; l++) {
            Due.holds("load " + l + " as it was then", way(x, l).equals(then.get(l)));
        }
        x.wind(0, 0, 0);
        x.plane(0, 10, 1000, 600, 47000);
        for (int l = 0; l < 3; l++) {
            Due.holds("load " + l + " as it was then, others by now", way(x, l).equals(then.get(l)));
        }
    }

    private static List<Long> way(JumpDesk x, int l) {
        List<Long> told = new ArrayList<>();
        for (int i = 0; i < 2; i++) {
            for (int t : new int[] {0, 1, 30, 100, 1000}) {
                told.add((long) x.where(l, i, t, 0));
                told.add((long) x.where(l, i, t, 1));
                told.add((long) x.where(l, i, t, 2));
            }
        }
        told.add(x.near(l, 0, 1));
        told.add((long) x.spot(l, 0));
        told.add((long) x.spot(l, 1));
        return told;
    }

    private static void newOnesBesideUsedOnes() {
        Due.part("promise 1: a new object, whatever others there are");
        List<List<Long>> first = new ArrayList<>();
        for (int part = 0; part < Look.PARTS; part++) {
            first.add(Look.at(new JumpDesk(), part));
        }
        JumpDesk used = Edge.desk(NowTest::make);
        ask(used);
        ordered(used);
        for (int part = 0; part < Look.PARTS; part++) {
            Due.holds("part " + part, Look.at(new JumpDesk(), part).equals(first.get(part)));
        }
        JumpDesk one = Edge.desk(NowTest::make);
        JumpDesk other = Edge.desk(Scene::make);
        List<Long> alone = Look.at(Edge.desk(Scene::make), Look.WAYS);
        ask(one);
        Due.holds("one beside another", Look.at(other, Look.WAYS).equals(alone));
    }
}
