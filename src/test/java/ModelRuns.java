import java.lang.reflect.Method;
import java.util.ArrayList;
import java.util.HashMap;
import java.util.List;
import java.util.Map;
import java.util.Random;

/**
 * Many runs of calls on a new JumpDesk and a new Model, the same ones each time: every answer has to be the
 * same, up to the last of the object's 512 calls. The arguments are mostly such as may be, often at an edge, and
 * now and then anything.
 */
public final class ModelRuns {
    private static final String[] NAMES = {
        "sheet", "cell", "gap", "lose", "told", "winds", "wind", "blows", "jumper", "group", "join", "of", "plane",
        "rule", "load", "put", "out", "pause", "start", "in", "where", "near", "between", "order", "spot", "why",
        "leave", "many"
    };
    private static final int[] EDGES = {
        Integer.MIN_VALUE, -1, 0, 1, 2, 3, 4, 5, 6, 11, 12, 19, 20, 21, 31, 32, 60, 61, 150, 151, 300, 301, -300,
        -301, 1000, 1001, 50001, -50001, Integer.MAX_VALUE
    };
    private static final String[] MET = {
        "between -7", "between 1", "order -7", "order 0", "spot -100001", "spot -50000", "spot 50000",
        "near " + JumpDesk.BEYOND, "put -2", "put -5", "put -6", "out -6", "pause -6", "start -6", "join -2",
        "join -5", "join -6", "group -2", "load -2", "winds -3", "winds -1", "winds 1", "sheet -4"
    };
    /** An object is good for so many calls: what later ones answer is free. */
    private static final int CALLS = 512;
    private static final Map<String, Method> OF_DESK = new HashMap<>();
    private static final Map<String, Method> OF_MODEL = new HashMap<>();

    private final Random random;
    private final JumpDesk desk = new JumpDesk();
    private final Model model = new Model();
    private final List<String> told = new ArrayList<>();
    private final Map<String, Integer> seen;
    private boolean same = true;

    private ModelRuns(int seed, Map<String, Integer> seen) {
        random = new Random(seed);
        this.seen = seen;
    }

    public static void main(String[] args) throws Exception {
        int runs = args.length > 0 ? Integer.parseInt(args[0]) : 400;
        int from = args.length > 1 ? Integer.parseInt(args[1]) : 0;
        for (Method m : JumpDesk.class.getMethods()) OF_DESK.put(m.getName(), m);
        for (Method m : Model.class.getMethods()) OF_MODEL.put(m.getName(), m);
        Map<String, Integer> seen = new HashMap<>();
        int wrong = 0;
        for (int seed = from; seed < from + runs && wrong < 3; seed++) {
            ModelRuns run = new ModelRuns(seed, seen);
            run.play();
            if (!run.same) wrong++;
        }
        Due.part("model");
        Due.due("runs unlike", wrong, 0);
        for (int bar = 0; bar <= 11; bar++) {
            Due.holds("why = " + bar + " was met", seen.containsKey("why " + bar));
        }
        for (String answer : MET) {
            Due.holds(answer + " was met", seen.containsKey(answer));
        }
        if (args.length > 0) {
            seen.entrySet().stream().filter(e -> e.getKey().matches("(why|leave|order|between|spot|join|put|winds) -?\\d{1,2}|spot -10000[12]"))
                .sorted(Map.Entry.comparingByKey()).forEach(e -> System.out.println(e));
        }
        Due.end();
    }

    private void play() throws Exception {
        int manner = random.nextInt(4);
        if (manner != 0) settle(manner);
        int calls = 60 + random.nextInt(120);
        for (int n = 0; n < calls && same; n++) {
            String name = NAMES[random.nextInt(NAMES.length)];
            call(name, random.nextInt(25) == 0 ? anything(name) : fitting(name));
        }
        lookAtAll();
    }

    /** Something to leave with: groups with jumpers, loads with groups, mild winds. */
    private void settle(int manner) throws Exception {
        int groups = 4 + random.nextInt(12);
        for (int g = 0; g < groups && same; g++) {
            int kind = random.nextInt(4);
            call("group", kind, edged(6000, 15000), random.nextInt(151), random.nextInt(4));
            int members = manner == 1 && random.nextInt(4) == 0 ? 0 : 1 + random.nextInt(2);
            for (int i = 0; i < members; i++) call("join", g, random.nextInt(12) == 0 ? random.nextInt(32) : (2 * g + i) % 32);
        }
        for (int layer = 0; layer < 12 && manner != 2; layer++) {
            call("wind", layer, random.nextInt(121) - 60, random.nextInt(121) - 60);
        }
        if (manner != 3) call("rule", 1, 8000 + random.nextInt(12001));
        if (random.nextInt(3) == 0) makeDrift();
        for (int j = 0; j < 32 && random.nextInt(3) == 0; j++) {
            call("jumper", j, random.nextInt(3), edged(40, 200), edged(0, 1000));
        }
        int loads = 1 + random.nextInt(4);
        for (int l = 0; l < loads && same; l++) {
            call("load", random.nextInt(3));
            int size = 1 + random.nextInt(6);
            for (int i = 0; i < size; i++) call("put", l, random.nextInt(groups), 1 + random.nextInt(random.nextBoolean() ? 60 : 20));
            call("order", l);
            int least = (int) (long) ask(OF_MODEL, model, "spot", l, 0);
            int most = (int) (long) ask(OF_MODEL, model, "spot", l, 1);
            if (least >= -50000) call("start", l, random.nextInt(3) == 0 ? least : random.nextBoolean() ? most : (least + most) / 2);
            if (random.nextInt(5) == 0) stretch(l);
            call("why", l, random.nextInt(1001));
            if (random.nextBoolean()) call("leave", l, random.nextInt(1001));
        }
    }

    /** Winds that carry the open ones along with a slow plane: then pauses are long, or there is none. */
    private void makeDrift() throws Exception {
        call("rule", 0, edged(0, 5000));
        for (int p = 0; p < 3; p++) {
            call("plane", p, 20, 4000, 200 + random.nextInt(40), edged(15000, 47000));
        }
        int along = 150 + random.nextInt(100);
        for (int layer = 3; layer < 12; layer++) {
            call("wind", layer, along, random.nextInt(21) - 10);
        }
    }

    /** Low planes and long pauses: then one is down ahead of the leaving of another. */
    private void stretch(int l) throws Exception {
        call("plane", model.in(l, 0), 20, 4000, edged(200, 600), edged(15000, 17000));
        for (int i = 0; i < 6; i++) {
            call("pause", l, i, edged(50, 60));
        }
    }

    /** What is left of the object's calls asks what it is now, here and there. */
    private void lookAtAll() throws Exception {
        for (int l = 0; l < 12; l++) call("why", l, 0);
        for (int l = 0; l < 4; l++) {
            for (int i = 0; i < 6; i++) {
                call("near", l, i, random.nextInt(6));
                call("where", l, i, edged(0, 1000), edged(0, 3));
            }
        }
        while (same && told.size() < CALLS) {
            lookAtOne();
        }
    }

    private void lookAtOne() throws Exception {
        switch (random.nextInt(8)) {
            case 0:
                call("blows", random.nextInt(14) - 1, random.nextInt(4) - 1);
                break;
            case 1:
                call("told", random.nextInt(3), random.nextInt(22) - 1);
                break;
            case 2:
            case 3:
                call("of", random.nextInt(22) - 1, random.nextInt(16) - 1);
                break;
            case 4:
                call("many", random.nextInt(6) - 1);
                break;
            default:
                call("in", random.nextInt(model.many(1) + 2) - 1, random.nextInt(43) - 1);
                break;
        }
    }

    private int edged(int least, int most) {
        switch (random.nextInt(12)) {
            case 0:
                return least;
            case 1:
                return most;
            case 2:
                return random.nextInt(6) == 0 ? least - 1 : least;
            case 3:
                return random.nextInt(6) == 0 ? most + 1 : most;
            default:
                return least + random.nextInt(most - least + 1);
        }
    }

    private int[] anything(String name) {
        int[] args = new int[OF_DESK.get(name).getParameterCount()];
        for (int i = 0; i < args.length; i++) {
            args[i] = random.nextInt(3) == 0 ? random.nextInt() : EDGES[random.nextInt(EDGES.length)];
        }
        return args;
    }

    private int aGroup() {
        return random.nextInt(20) == 0 ? edged(0, 19) : edged(0, Math.max(0, model.many(0) - 1));
    }

    private int aLoad() {
        return random.nextInt(20) == 0 ? edged(0, 11) : edged(0, Math.max(0, model.many(1) - 1));
    }

    private int aPlace(int l) {
        return random.nextInt(20) == 0 ? edged(0, 5) : edged(0, Math.max(0, model.in(l, 1) - 1));
    }

    private int[] fitting(String name) {
        int l = aLoad();
        switch (name) {
            case "sheet":
                return new int[] {edged(0, 2), edged(0, 20)};
            case "cell":
                return new int[] {edged(0, 2), edged(0, 12), random.nextInt(9) == 0 ? random.nextInt() : edged(-500, 500), edged(0, 20)};
            case "gap":
                return new int[] {edged(0, 2), edged(0, 12)};
            case "lose":
                return new int[] {random.nextInt(3) == 0 ? edged(0, 2) : 5};
            case "told":
                return new int[] {edged(0, 2), edged(0, 19)};
            case "winds":
                return new int[] {edged(0, 2), edged(0, 2)};
            case "wind":
                return new int[] {edged(0, 11), edged(-300, 300) / (1 + random.nextInt(8)), edged(-300, 300) / (1 + random.nextInt(8))};
            case "blows":
                return new int[] {edged(0, 11), edged(0, 1)};
            case "jumper":
                return new int[] {edged(0, 31), random.nextInt(2) * edged(0, 2), edged(40, 200), edged(0, 1000)};
            case "group":
                return new int[] {edged(0, 3), edged(6000, 15000), edged(0, 150), edged(0, 3)};
            case "join":
                return new int[] {aGroup(), edged(0, 31)};
            case "of":
                return new int[] {aGroup(), edged(0, 14)};
            case "plane":
                return new int[] {edged(0, 2), edged(1, 20), edged(100, 4000), edged(200, 600), edged(15000, 47000)};
            case "rule":
                return rule();
            case "load":
                return new int[] {edged(0, 2)};
            case "put":
                return new int[] {l, aGroup(), edged(1, 60)};
            case "out":
                return new int[] {l, aPlace(l)};
            case "pause":
                return new int[] {l, aPlace(l), edged(1, 60)};
            case "start":
                return new int[] {l, edged(-50000, 50000) / (1 + random.nextInt(6))};
            case "in":
                return new int[] {l, edged(0, 40)};
            case "where":
                return new int[] {l, aPlace(l), random.nextInt(3) == 0 ? edged(0, 30) : edged(0, 1000), edged(0, 3)};
            case "near":
                return new int[] {l, aPlace(l), aPlace(l)};
            case "between":
                return new int[] {edged(0, 2), aGroup(), aGroup()};
            case "order":
                return new int[] {l};
            case "spot":
                return new int[] {l, edged(0, 1)};
            case "why":
            case "leave":
                return new int[] {l, edged(0, 1000)};
            default:
                return new int[] {edged(0, 3)};
        }
    }

    private int[] rule() {
        int what = edged(0, 9);
        int most = what == 0 ? 5000 : what == 1 ? 20000 : what < 6 ? 180000 : 3;
        return new int[] {what, edged(0, most)};
    }

    private static Object ask(Map<String, Method> methods, Object who, String name, int... args) throws Exception {
        Object[] boxed = new Object[args.length];
        for (int i = 0; i < args.length; i++) boxed[i] = args[i];
        return ((Number) methods.get(name).invoke(who, boxed)).longValue();
    }

    private void call(String name, int... args) throws Exception {
        if (!same || told.size() >= CALLS) return;
        Object due = ask(OF_MODEL, model, name, args);
        Object got = ask(OF_DESK, desk, name, args);
        StringBuilder text = new StringBuilder(name);
        for (int arg : args) text.append(' ').append(arg);
        told.add(text.append(" = ").append(due).toString());
        seen.merge(name + " " + due, 1, Integer::sum);
        if (!due.equals(got)) {
            same = false;
            for (String line : told) System.out.println(line);
            System.out.println("but the desk answered " + got);
        }
    }
}
