import java.util.ArrayList;
import java.util.List;

/**
 * All that can be seen of a desk, in parts, each small enough for one desk and its 512 calls. A look may change
 * the desk that it looks at (it takes rules away, or puts jumpers into new groups), so each part wants a desk of
 * its own.
 */
final class Look {
    static final int PARTS = 6;

    private final JumpDesk x;
    private final List<Long> seen = new ArrayList<>();

    private Look(JumpDesk x) {
        this.x = x;
    }

    static List<Long> at(JumpDesk x, int part) {
        Look look = new Look(x);
        switch (part) {
            case 0 -> look.atWinds();
            case 1 -> look.atGroups();
            case 2 -> look.atLoads();
            case 3 -> look.atWays();
            case 4 -> look.atRulesAndPlanes();
            default -> look.atJumpers();
        }
        return look.seen;
    }

    private void see(long answer) {
        seen.add(answer);
    }

    private void atWinds() {
        for (int layer = 0; layer < 12; layer++) {
            see(x.blows(layer, 0));
            see(x.blows(layer, 1));
        }
        for (int r = 0; r < 3; r++) {
            for (int i = 0; i <= 20; i++) {
                see(x.told(r, i));
            }
        }
        for (int r = 0; r < 3; r++) {
            see(x.lose(r));
        }
    }

    private void atGroups() {
        for (int g = 0; g < 20; g++) {
            for (int what : new int[] {0, 1, 2, 3, 4, 5, 10, 11, 12, 13}) {
                see(x.of(g, what));
            }
        }
        see(x.many(0));
    }

    private void atLoads() {
        for (int l = 0; l < 12; l++) {
            for (int what = 0; what < 4; what++) {
                see(x.in(l, what));
            }
            for (int i = 0; i < 6; i++) {
                see(x.in(l, 10 + i));
                see(x.in(l, 20 + i));
                see(x.in(l, 30 + i));
            }
        }
        see(x.many(1));
        see(x.many(2));
        see(x.many(3));
    }

    private void atWays() {
        for (int l = 0; l < 4; l++) {
            int count = Math.max(0, x.in(l, 1));
            for (int i = 0; i < count; i++) {
                for (int what = 0; what < 3; what++) {
                    see(x.where(l, i, 1, what));
                    see(x.where(l, i, 60, what));
                    see(x.where(l, i, 1000, what));
                }
                see(x.near(l, 0, i));
            }
            see(x.spot(l, 0));
            see(x.spot(l, 1));
            see(x.why(l, 0));
            see(x.why(l, 1000));
        }
    }

    private void atRulesAndPlanes() {
        int one = x.group(0, 6000, 0, 0);
        int other = x.group(0, 6000, 0, 0);
        for (int p = 0; p < 3; p++) {
            int l = x.load(p);
            see(x.put(l, one, 1));
            see(x.put(l, other, 1));
            see(x.where(l, 0, 0, 2));
            see(x.where(l, 1, 0, 0));
            x.out(l, 0);
            x.out(l, 0);
        }
        for (int what = 0; what < 10; what++) {
            see(x.rule(what, 0));
        }
    }

    /** Four by four in new groups: what they weigh together, and whether one is worn, or is without help. */
    private void atJumpers() {
        for (int what = 2; what < 6; what++) {
            x.rule(what, 180000);
        }
        for (int first = 0; first < 32; first += 4) {
            int g = x.group(3, 9000, 0, 0);
            int l = x.load(2);
            for (int j = first; j < first + 4; j++) {
                see(x.join(g, j));
            }
            see(x.of(g, 5));
            see(x.put(l, g, 1));
            for (int day = 0; day <= 1000; day += 100) {
                see(x.why(l, day));
            }
        }
    }
}
