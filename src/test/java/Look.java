import java.util.ArrayList;
import java.util.LinkedHashMap;
import java.util.List;
import java.util.Map;

/**
 * All that can be seen of a desk, in parts, each small enough for one desk and its 512 calls. A look may change
 * the desk that it looks at (it takes rules away, or puts jumpers into new groups), so each part wants a desk of
 * its own.
 */
final class Look {
    static final int PARTS = 6;
    /** The part that follows from all others: where groups are, how near, from where they come home, what bars. */
    static final int WAYS = 3;

    private final JumpDesk x;
    private final List<Long> seen = new ArrayList<>();
    private final Map<String, Long> named;

    private Look(JumpDesk x, Map<String, Long> named) {
        this.x = x;
        this.named = named;
    }

    static List<Long> at(JumpDesk x, int part) {
        return look(new Look(x, null), part).seen;
    }

    /** The same, by the call that was asked: "in 0 2" is what in(0, 2) answered. */
    static Map<String, Long> named(JumpDesk x, int part) {
        return look(new Look(x, new LinkedHashMap<>()), part).named;
    }

    private static Look look(Look look, int part) {
        switch (part) {
            case 0 -> look.atWinds();
            case 1 -> look.atGroups();
            case 2 -> look.atLoads();
            case WAYS -> look.atWays();
            case 4 -> look.atRulesAndPlanes();
            default -> look.atJumpers();
        }
        return look;
    }

    private void see(long answer, String call, int... args) {
        seen.add(answer);
        if (named != null) {
            StringBuilder name = new StringBuilder(call);
            for (int arg : args) {
                name.append(' ').append(arg);
            }
            named.put(name.toString(), answer);
        }
    }

    private void atWinds() {
        for (int layer = 0; layer < 12; layer++) {
            see(x.blows(layer, 0), "blows", layer, 0);
            see(x.blows(layer, 1), "blows", layer, 1);
        }
        for (int r = 0; r < 3; r++) {
            for (int i = 0; i <= 20; i++) {
                see(x.told(r, i), "told", r, i);
            }
        }
        for (int r = 0; r < 3; r++) {
            see(x.lose(r), "lose", r);
        }
    }

    private void atGroups() {
        for (int g = 0; g < 20; g++) {
            for (int what : new int[] {0, 1, 2, 3, 4, 5, 10, 11, 12, 13}) {
                see(x.of(g, what), "of", g, what);
            }
        }
        see(x.many(0), "many", 0);
    }

    private void atLoads() {
        for (int l = 0; l < 12; l++) {
            for (int what = 0; what < 4; what++) {
                see(x.in(l, what), "in", l, what);
            }
            for (int i = 0; i < 6; i++) {
                for (int what = 10; what <= 30; what += 10) {
                    see(x.in(l, what + i), "in", l, what + i);
                }
            }
        }
        for (int what = 1; what <= 3; what++) {
            see(x.many(what), "many", what);
        }
    }

    private void atWays() {
        for (int l = 0; l < 4; l++) {
            int count = Math.max(0, x.in(l, 1));
            for (int i = 0; i < count; i++) {
                for (int what = 0; what < 3; what++) {
                    for (int t : new int[] {1, 60, 1000}) {
                        see(x.where(l, i, t, what), "where", l, i, t, what);
                    }
                }
                see(x.near(l, 0, i), "near", l, 0, i);
            }
            see(x.spot(l, 0), "spot", l, 0);
            see(x.spot(l, 1), "spot", l, 1);
            see(x.why(l, 0), "why", l, 0);
            see(x.why(l, 1000), "why", l, 1000);
        }
    }

    private void atRulesAndPlanes() {
        int one = x.group(0, 6000, 0, 0);
        int other = x.group(0, 6000, 0, 0);
        for (int p = 0; p < 3; p++) {
            int l = x.load(p);
            see(x.put(l, one, 1), "put one, plane", p);
            see(x.put(l, other, 1), "put another, plane", p);
            see(x.where(l, 0, 0, 2), "height, plane", p);
            see(x.where(l, 1, 0, 0), "speed, plane", p);
            x.out(l, 0);
            x.out(l, 0);
        }
        for (int what = 0; what < 10; what++) {
            see(x.rule(what, 0), "rule", what);
        }
    }

    /** Four by four in new groups: what they weigh together, and whether one is worn, or is without help. */
    private void atJumpers() {
        for (int layer = 0; layer < 12; layer++) {
            x.wind(layer, 0, 0);
        }
        x.plane(2, 4, 1000, 400, 40000);
        x.rule(1, 20000);
        for (int first = 0; first < 32; first += 4) {
            int g = x.group(3, 9000, 0, 0);
            int l = x.load(2);
            for (int j = first; j < first + 4; j++) {
                see(x.join(g, j), "join", j);
            }
            see(x.of(g, 5), "weight from", first);
            see(x.put(l, g, 1), "put from", first);
            for (int day = 0; day <= 1000; day += 100) {
                see(x.why(l, day), "why from", first, day);
            }
        }
    }
}
