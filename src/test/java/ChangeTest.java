import java.util.HashSet;
import java.util.LinkedHashMap;
import java.util.Map;
import java.util.Set;

/**
 * A call that is taken changes what its promise names and nothing else. Where groups are and what follows from
 * that is left to NowTest; all else that can be seen of a desk is compared here, ahead of the call and behind it.
 */
public final class ChangeTest {
    private static final int UNTOLD = Integer.MIN_VALUE;

    public static void main(String[] args) {
        sheets();
        winds();
        jumpersAndGroups();
        planesAndRules();
        loadsAndGroups();
        pausesAndStarts();
        orders();
        leaves();
        Due.end();
    }

    /** What is seen anew is told by turns: a call as Look names it, and its answer. All else is as it was. */
    private static void only(String what, Edge.Made made, Edge.Call call, long due, Object... changed) {
        Map<String, Long> anew = new LinkedHashMap<>();
        for (int i = 0; i + 1 < changed.length; i += 2) {
            anew.put((String) changed[i], ((Number) changed[i + 1]).longValue());
        }
        Set<String> met = new HashSet<>();
        for (int part = 0; part < Look.PARTS; part++) {
            if (part == Look.WAYS) {
                continue;
            }
            Map<String, Long> before = Look.named(Edge.desk(made), part);
            JumpDesk x = Edge.desk(made);
            Due.due(what, call.on(x), due);
            for (Map.Entry<String, Long> then : Look.named(x, part).entrySet()) {
                String name = then.getKey();
                met.add(name);
                Due.due(what + ", then " + name, then.getValue(), anew.getOrDefault(name, before.get(name)));
            }
        }
        Due.holds(what + ": all that changes was looked at", met.containsAll(anew.keySet()));
    }

    private static Edge.Made scene(Edge.Made then) {
        return x -> {
            Scene.make(x);
            then.on(x);
        };
    }

    private static void sheets() {
        Due.part("promise 2: a sheet comes, and nothing else");
        only("where none was", Scene::make, x -> x.sheet(2, 2), 1, "told 2 0", 0, "told 2 1", 0, "lose 2", 1);
        only("without numbers", Scene::make, x -> x.sheet(2, 0), 1, "lose 2", 1);
        only("in place of one", Scene::make, x -> x.sheet(0, 1), 1,
            "told 0 0", 0, "told 0 1", UNTOLD, "told 0 2", UNTOLD);
        Due.part("promise 3: a number, and nothing else");
        only("beside a gap", Scene::make, x -> x.cell(0, 2, 9, 1), 1, "told 0 1", 4750, "told 0 2", 4500);
        only("in place of a gap", Scene::make, x -> x.cell(0, 1, 3, 0), 1, "told 0 1", 3000);
        only("in another sheet", Scene::make, x -> x.cell(1, 2, -1, 1), 1, "told 1 2", -500);
        Due.part("promise 4: a gap, and nothing else");
        only("beside a gap", Scene::make, x -> x.gap(0, 0), 1, "told 0 0", -6750, "told 0 1", -6750);
        only("the last one", Scene::make, x -> x.gap(1, 19), 1, "told 1 18", 0, "told 1 19", 0);
        Due.part("promise 5: missing, and nothing else");
        only("of 3 numbers", Scene::make, x -> x.lose(0), 1, "lose 0", JumpDesk.MISSING,
            "told 0 0", UNTOLD, "told 0 1", UNTOLD, "told 0 2", UNTOLD);
        only("of none", scene(x -> x.sheet(2, 0)), x -> x.lose(2), 1, "lose 2", JumpDesk.MISSING);
    }

    private static void winds() {
        Due.part("promise 7: the winds of all layers, and nothing else");
        Object[] byBoth = new Object[48];
        Object[] turned = new Object[48];
        int[] alongX = {50, -8, -67};
        for (int layer = 0; layer < 12; layer++) {
            int one = alongX[Math.min(layer, 2)];
            int other = layer == 0 ? 70 : 0;
            fill(byBoth, layer, one, other);
            fill(turned, layer, other, one);
        }
        only("sheets 0 and 1", Scene::make, x -> x.winds(0, 1), 1, byBoth);
        only("sheets 1 and 0", Scene::make, x -> x.winds(1, 0), 1, turned);
        Due.part("promise 8: the wind of a layer, and nothing else");
        for (int layer = 0; layer < 12; layer++) {
            int at = layer;
            only("layer " + at, Scene::make, x -> x.wind(at, 20 + at, -30 - at), 1,
                "blows " + at + " 0", 20 + at, "blows " + at + " 1", -30 - at);
        }
    }

    private static void fill(Object[] changed, int layer, int x, int y) {
        changed[4 * layer] = "blows " + layer + " 0";
        changed[4 * layer + 1] = x;
        changed[4 * layer + 2] = "blows " + layer + " 1";
        changed[4 * layer + 3] = y;
    }

    private static void jumpersAndGroups() {
        Due.part("promise 10: a jumper, and nothing else");
        Object[] worn = new Object[24];
        for (int day = 0; day <= 1000; day += 100) {
            worn[day / 50] = "why from 8 " + day;
            worn[day / 50 + 1] = day <= 300 ? 7 : 5;
        }
        worn[22] = "weight from 8";
        worn[23] = 440;
        only("in no group", Scene::make, x -> x.jumper(9, 1, 200, 350), 1, worn);
        only("as it was", Scene::make, x -> x.jumper(1, 0, 90, 500), 1);
        only("in group 0", Scene::make, x -> x.jumper(0, 2, 100, 1000), 1, "of 0 5", 190, "weight from 0", 320);
        Due.part("promise 11: a group, and nothing else");
        only("group 5", Scene::make, x -> x.group(2, 7001, 33, 1), 5, "many 0", 6,
            "of 5 0", 2, "of 5 1", 7001, "of 5 2", 33, "of 5 3", 1, "of 5 4", 0, "of 5 5", 0);
        Due.part("promise 12: a jumper in a group, and nothing else");
        only("the first", Scene::make, x -> x.join(4, 9), 1, "of 4 4", 1, "of 4 5", 80, "of 4 10", 9);
        only("the third", Scene::make, x -> x.join(0, 2), 3, "of 0 4", 3, "of 0 5", 240, "of 0 12", 2);
    }

    private static void planesAndRules() {
        Due.part("promise 14: a plane, and nothing else");
        for (int p = 0; p < 3; p++) {
            int at = p;
            only("plane " + at, Scene::make, x -> x.plane(at, 1, 100, 555, 33333), 1,
                "height, plane " + at, 33333, "speed, plane " + at, 555);
        }
        Due.part("promise 15: a rule, and nothing else");
        int[] was = {900, 20000, 20000, 20000, 20000, 20000, 0, 1, 2, 3};
        int[] anew = {901, 19999, 1, 2, 3, 4, 3, 2, 1, 0};
        for (int what = 0; what < 10; what++) {
            int of = what;
            only("rule " + of, Scene::make, x -> x.rule(of, anew[of]), was[of], "rule " + of, anew[of]);
        }
    }

    private static void loadsAndGroups() {
        Due.part("promise 16: a load, and nothing else");
        only("load 3", Scene::make, x -> x.load(2), 3, "many 1", 4,
            "in 3 0", 2, "in 3 1", 0, "in 3 2", 0, "in 3 3", 0);
        Due.part("promise 17: a group in a load, and nothing else");
        only("behind two", Scene::make, x -> x.put(0, 4, 7), 3,
            "in 0 1", 3, "in 0 12", 4, "in 0 22", 7, "in 0 32", 27);
        only("the first", Scene::make, x -> x.put(2, 2, 33), 1,
            "in 2 1", 1, "in 2 10", 2, "in 2 20", 33, "in 2 30", 0);
        only("the first, behind a start", scene(x -> x.start(2, 777)), x -> x.put(2, 2, 33), 1,
            "in 2 1", 1, "in 2 10", 2, "in 2 20", 33, "in 2 30", 0);
        only("one that went up", Scene::make, x -> x.put(0, 3, 60), 3,
            "in 0 1", 3, "in 0 12", 3, "in 0 22", 60, "in 0 32", 80);
        Due.part("promise 18: a group out of a load, and nothing else");
        only("the first of two", Scene::make, x -> x.out(0, 0), 1, "in 0 1", 1,
            "in 0 10", 1, "in 0 20", 20, "in 0 30", 0, "in 0 11", -1, "in 0 21", -1, "in 0 31", -1);
        only("the second of two", Scene::make, x -> x.out(0, 1), 1, "in 0 1", 1,
            "in 0 11", -1, "in 0 21", -1, "in 0 31", -1);
        only("the only one", scene(x -> x.out(0, 0)), x -> x.out(0, 0), 0, "in 0 1", 0,
            "in 0 10", -1, "in 0 20", -1, "in 0 30", -1);
    }

    private static void pausesAndStarts() {
        Due.part("promise 19: a pause, and nothing else");
        only("ahead of the first", Scene::make, x -> x.pause(0, 0, 60), 1, "in 0 20", 60);
        only("ahead of the second", Scene::make, x -> x.pause(0, 1, 33), 1, "in 0 21", 33, "in 0 31", 33);
        only("ahead of the second of three", scene(x -> x.put(0, 4, 7)), x -> x.pause(0, 1, 1), 1,
            "in 0 21", 1, "in 0 31", 1, "in 0 32", 8);
        Due.part("promise 20: a start, and nothing else");
        only("with groups", Scene::make, x -> x.start(0, 41234), 1, "in 0 2", 41234);
        only("without groups", Scene::make, x -> x.start(2, -41234), 1, "in 2 2", -41234);
    }

    private static void orders() {
        Due.part("promise 25: an order and its pauses, and nothing else");
        int pause = Edge.desk(Scene::make).between(0, 0, 1);
        only("as it was", Scene::make, x -> x.order(0), pause, "in 0 20", 1, "in 0 21", pause, "in 0 31", pause);
        Edge.Made turned = scene(x -> {
            x.out(0, 0);
            x.put(0, 0, 44);
        });
        only("the other way about", turned, x -> x.order(0), pause, "in 0 10", 0, "in 0 11", 1,
            "in 0 20", 1, "in 0 21", pause, "in 0 31", pause);
        only("of one", scene(x -> x.put(2, 2, 33)), x -> x.order(2), 0, "in 2 20", 1);
    }

    /** Another load of the same plane, with a group of its own, is about to leave as well. */
    private static void alike(JumpDesk x) {
        Scene.make(x);
        x.load(0);
        x.put(3, Scene.FULL_GROUP, 9);
        x.start(3, x.spot(3, 0));
    }

    private static void leaves() {
        Due.part("promise 28: a load leaves, and nothing else");
        Due.due("nothing bars the one", Edge.desk(ChangeTest::alike).why(0, 100), 0);
        Due.due("nor the other", Edge.desk(ChangeTest::alike).why(3, 100), 0);
        only("the one", ChangeTest::alike, x -> x.leave(0, 100), 3, "in 0 3", 1, "many 2", 2, "many 3", 5);
        only("the other", ChangeTest::alike, x -> x.leave(3, 100), 4, "in 3 3", 1, "many 2", 2, "many 3", 6);
        for (int start : new int[] {-4001, -4000, -1, 0, 1}) {
            Edge.Made made = scene(x -> x.start(0, start));
            only("from " + start, made, x -> x.leave(0, 100), 3, "in 0 3", 1, "many 2", 2, "many 3", 5);
        }
    }
}
