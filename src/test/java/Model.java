import java.util.ArrayList;
import java.util.HashSet;
import java.util.List;
import java.util.Set;

/**
 * The document once more, as slow and plain as it can be written, so that what JumpDesk answers can be held
 * against it: spots are tried one by one, nearness is looked for second by second from the beginning of the
 * load on, orders are all made, and nothing is kept that can be asked again.
 */
public final class Model {
    private static final int NUMBER = -1;
    private static final int FULL = -2;
    private static final int MISSING = -3;
    private static final int SIZE = -4;
    private static final int TWICE = -5;
    private static final int STATE = -6;
    private static final int NONE = -7;
    private static final long BEYOND = 1L << 60;

    private static final class Jumper {
        int sort = 0;
        int weight = 80;
        int day = 1000;
    }

    private static final class Group {
        int kind;
        int opens;
        int forward;
        int direction;
        final List<Integer> jumpers = new ArrayList<>();
    }

    private static final class Plane {
        int seats = 10;
        int bears = 1000;
        int speed = 400;
        int height = 40000;
    }

    private static final class Load {
        int plane;
        int start = 0;
        boolean left = false;
        final List<Integer> groups = new ArrayList<>();
        final List<Integer> pauses = new ArrayList<>();
        int[][] windThen;
        int speedThen;
        int heightThen;
    }

    /** One that falls, moved on second by second. */
    private static final class Body {
        long x;
        long y;
        long height;
        int state = 1;
        int seconds = 0;
        int open = 0;
    }

    private final List<List<Float>> sheets = new ArrayList<>();
    private final int[][] wind = new int[12][2];
    private final Jumper[] jumpers = new Jumper[32];
    private final List<Group> groups = new ArrayList<>();
    private final Plane[] planes = {new Plane(), new Plane(), new Plane()};
    private final List<Load> loads = new ArrayList<>();
    private int free = 1000;
    private int field = 3000;
    private final int[] limits = {20000, 20000, 20000, 20000};
    private final int[] ranks = {0, 1, 2, 3};

    public Model() {
        for (int i = 0; i < 3; i++) {
            sheets.add(null);
        }
        for (int i = 0; i < 32; i++) {
            jumpers[i] = new Jumper();
        }
    }

    private static boolean out(long v, long least, long most) {
        return v < least || v > most;
    }

    public int sheet(int r, int n) {
        if (out(r, 0, 2)) return NUMBER;
        if (n < 0) return SIZE;
        if (n > 20) return NUMBER;
        List<Float> sheet = new ArrayList<>();
        for (int i = 0; i < n; i++) sheet.add(0f);
        sheets.set(r, sheet);
        return 1;
    }

    public int cell(int r, int i, int v, int k) {
        if (out(r, 0, 2) || out(k, 0, 20)) return NUMBER;
        if (sheets.get(r) == null) return MISSING;
        if (out(i, 0, sheets.get(r).size() - 1)) return NUMBER;
        sheets.get(r).set(i, (float) ((double) (float) v / Math.pow(2, k)));
        return 1;
    }

    public int gap(int r, int i) {
        if (out(r, 0, 2)) return NUMBER;
        if (sheets.get(r) == null) return MISSING;
        if (out(i, 0, sheets.get(r).size() - 1)) return NUMBER;
        sheets.get(r).set(i, Float.NaN);
        return 1;
    }

    public int lose(int r) {
        if (out(r, 0, 2)) return NUMBER;
        if (sheets.get(r) == null) return MISSING;
        sheets.set(r, null);
        return 1;
    }

    private static float filled(List<Float> sheet, int i) {
        if (!sheet.get(i).isNaN()) return sheet.get(i);
        Float below = null;
        Float above = null;
        for (int at = 0; at < i; at++) if (!sheet.get(at).isNaN()) below = sheet.get(at);
        for (int at = sheet.size() - 1; at > i; at--) if (!sheet.get(at).isNaN()) above = sheet.get(at);
        if (below == null && above == null) return 0f;
        if (below == null) return above;
        if (above == null) return below;
        return (below + above) / 2;
    }

    public int told(int r, int i) {
        if (out(r, 0, 2) || sheets.get(r) == null || out(i, 0, sheets.get(r).size() - 1)) return Integer.MIN_VALUE;
        return (int) (filled(sheets.get(r), i) * 1000f);
    }

    public int winds(int r, int q) {
        if (out(r, 0, 2) || out(q, 0, 2)) return NUMBER;
        if (sheets.get(r) == null || sheets.get(q) == null) return MISSING;
        if (sheets.get(r).isEmpty() || sheets.get(q).isEmpty()) return NUMBER;
        int[][] all = new int[12][2];
        for (int layer = 0; layer < 12; layer++) {
            for (int way = 0; way < 2; way++) {
                List<Float> sheet = sheets.get(way == 0 ? r : q);
                int i = layer >= sheet.size() ? sheet.size() - 1 : layer;
                all[layer][way] = (int) (filled(sheet, i) * 10f);
                if (out(all[layer][way], -300, 300)) return NUMBER;
            }
        }
        for (int layer = 0; layer < 12; layer++) wind[layer] = all[layer];
        return 1;
    }

    public int wind(int layer, int x, int y) {
        if (out(layer, 0, 11) || out(x, -300, 300) || out(y, -300, 300)) return NUMBER;
        wind[layer] = new int[] {x, y};
        return 1;
    }

    public int blows(int layer, int what) {
        return out(layer, 0, 11) || out(what, 0, 1) ? -1000 : wind[layer][what];
    }

    public int jumper(int j, int sort, int weight, int day) {
        if (out(j, 0, 31) || out(sort, 0, 2) || out(weight, 40, 200) || out(day, 0, 1000)) return NUMBER;
        jumpers[j].sort = sort;
        jumpers[j].weight = weight;
        jumpers[j].day = day;
        return 1;
    }

    public int group(int kind, int opens, int forward, int direction) {
        if (out(kind, 0, 3) || out(opens, 6000, 15000) || out(forward, 0, 150) || out(direction, 0, 3)) return NUMBER;
        if (groups.size() == 20) return FULL;
        Group group = new Group();
        group.kind = kind;
        group.opens = opens;
        group.forward = forward;
        group.direction = direction;
        groups.add(group);
        return groups.size() - 1;
    }

    private boolean noGroup(int g) {
        return out(g, 0, groups.size() - 1);
    }

    private boolean noLoad(int l) {
        return out(l, 0, loads.size() - 1);
    }

    private boolean notIn(int l, int i) {
        return noLoad(l) || out(i, 0, loads.get(l).groups.size() - 1);
    }

    public int join(int g, int j) {
        if (noGroup(g) || out(j, 0, 31)) return NUMBER;
        for (Load load : loads) if (load.left && load.groups.contains(g)) return STATE;
        if (groups.get(g).jumpers.contains(j)) return TWICE;
        if (groups.get(g).jumpers.size() == 4) return FULL;
        groups.get(g).jumpers.add(j);
        return groups.get(g).jumpers.size();
    }

    public int of(int g, int what) {
        if (noGroup(g)) return -1;
        Group group = groups.get(g);
        if (what == 0) return group.kind;
        if (what == 1) return group.opens;
        if (what == 2) return group.forward;
        if (what == 3) return group.direction;
        if (what == 4) return group.jumpers.size();
        if (what == 5) return weight(g);
        for (int i = 0; i < group.jumpers.size(); i++) if (what == 10 + i) return group.jumpers.get(i);
        return -1;
    }

    private int weight(int g) {
        int sum = 0;
        for (int j : groups.get(g).jumpers) sum += jumpers[j].weight;
        return sum;
    }

    public int plane(int p, int seats, int bears, int speed, int height) {
        if (out(p, 0, 2) || out(seats, 1, 20) || out(bears, 100, 4000)) return NUMBER;
        if (out(speed, 200, 600) || out(height, 15000, 47000)) return NUMBER;
        planes[p].seats = seats;
        planes[p].bears = bears;
        planes[p].speed = speed;
        planes[p].height = height;
        return 1;
    }

    public int rule(int what, int v) {
        int was;
        if (what == 0) {
            if (out(v, 0, 5000)) return NUMBER;
            was = free;
            free = v;
        } else if (what == 1) {
            if (out(v, 0, 20000)) return NUMBER;
            was = field;
            field = v;
        } else if (what >= 2 && what <= 5) {
            if (out(v, 0, 180000)) return NUMBER;
            was = limits[what - 2];
            limits[what - 2] = v;
        } else if (what >= 6 && what <= 9) {
            if (out(v, 0, 3)) return NUMBER;
            was = ranks[what - 6];
            ranks[what - 6] = v;
        } else {
            return NUMBER;
        }
        return was;
    }

    public int load(int p) {
        if (out(p, 0, 2)) return NUMBER;
        if (loads.size() == 12) return FULL;
        Load load = new Load();
        load.plane = p;
        loads.add(load);
        return loads.size() - 1;
    }

    public int put(int l, int g, int pause) {
        if (noLoad(l) || noGroup(g) || out(pause, 1, 60)) return NUMBER;
        Load load = loads.get(l);
        if (load.left) return STATE;
        for (Load other : loads) if (!other.left && other.groups.contains(g)) return TWICE;
        if (load.groups.size() == 6) return FULL;
        load.groups.add(g);
        load.pauses.add(pause);
        return load.groups.size();
    }

    public int out(int l, int i) {
        if (notIn(l, i)) return NUMBER;
        if (loads.get(l).left) return STATE;
        loads.get(l).groups.remove(i);
        loads.get(l).pauses.remove(i);
        return loads.get(l).groups.size();
    }

    public int pause(int l, int i, int pause) {
        if (notIn(l, i) || out(pause, 1, 60)) return NUMBER;
        if (loads.get(l).left) return STATE;
        loads.get(l).pauses.set(i, pause);
        return 1;
    }

    public int start(int l, int x) {
        if (noLoad(l) || out(x, -50000, 50000)) return NUMBER;
        if (loads.get(l).left) return STATE;
        loads.get(l).start = x;
        return 1;
    }

    private static int second(List<Integer> pauses, int i) {
        return i == 0 ? 0 : second(pauses, i - 1) + pauses.get(i);
    }

    public int in(int l, int what) {
        if (noLoad(l)) return -1;
        Load load = loads.get(l);
        if (what == 0) return load.plane;
        if (what == 1) return load.groups.size();
        if (what == 2) return load.start;
        if (what == 3) return load.left ? 1 : 0;
        for (int i = 0; i < load.groups.size(); i++) {
            if (what == 10 + i) return load.groups.get(i);
            if (what == 20 + i) return load.pauses.get(i);
            if (what == 30 + i) return second(load.pauses, i);
        }
        return -1;
    }

    private int speed(Load load) {
        return load.left ? load.speedThen : planes[load.plane].speed;
    }

    private int height(Load load) {
        return load.left ? load.heightThen : planes[load.plane].height;
    }

    private int[][] wind(Load load) {
        return load.left ? load.windThen : wind;
    }

    private static void move(Body body, Group group, int speed, int[][] wind) {
        if (body.state == 3) return;
        int s = body.seconds;
        int[] blows = wind[(int) (body.height / 4000)];
        body.x += blows[0];
        body.y += blows[1];
        if (body.state == 2) {
            body.open++;
            body.height -= 50;
            if (body.height <= 0) {
                body.height = 0;
                body.state = 3;
            }
        } else {
            if (s <= 20) body.x += (long) (speed / Math.pow(2, s + 1));
            if (group.kind == 2 && s >= 5) {
                if (group.direction == 0) body.x += 80;
                if (group.direction == 1) body.y += 80;
                if (group.direction == 2) body.x -= 80;
                if (group.direction == 3) body.y -= 80;
            }
            int most = group.kind == 1 ? 60 : group.kind == 2 ? 45 : 50;
            int lesser = 10 * (s + 1) < most ? 10 * (s + 1) : most;
            body.height -= 10 * lesser;
            if (body.height <= group.opens || (group.kind == 3 && s >= 2)) body.state = 2;
        }
        body.seconds++;
    }

    private Body bodyAt(Load load, int i, int seconds) {
        Body body = new Body();
        body.x = load.start + (long) speed(load) * second(load.pauses, i);
        body.height = height(load);
        for (int s = 0; s < seconds; s++) move(body, groups.get(load.groups.get(i)), speed(load), wind(load));
        return body;
    }

    public int where(int l, int i, int t, int what) {
        if (notIn(l, i) || out(t, 0, 1000) || out(what, 0, 3)) return -1000000;
        Body body = bodyAt(loads.get(l), i, t);
        return (int) (what == 0 ? body.x : what == 1 ? body.y : what == 2 ? body.height : body.state);
    }

    private long nearness(Load load, int i, int j) {
        Body one = bodyAt(load, i, 0);
        Body other = bodyAt(load, j, 0);
        long least = BEYOND;
        for (int second = 0; second < 1400; second++) {
            boolean oneLeft = second >= second(load.pauses, i);
            boolean otherLeft = second >= second(load.pauses, j);
            if (oneLeft && otherLeft && one.state != 3 && other.state != 3) {
                long dx = one.x - other.x;
                long dy = one.y - other.y;
                long dz = one.height - other.height;
                least = Math.min(least, dx * dx + dy * dy + dz * dz);
            }
            if (oneLeft) move(one, groups.get(load.groups.get(i)), speed(load), wind(load));
            if (otherLeft) move(other, groups.get(load.groups.get(j)), speed(load), wind(load));
        }
        return least;
    }

    private boolean isFree(long near) {
        return near == BEYOND || near >= (long) free * free;
    }

    public long near(int l, int i, int j) {
        if (notIn(l, i) || notIn(l, j) || i == j) return NUMBER;
        return nearness(loads.get(l), i, j);
    }

    public int between(int p, int g, int h) {
        if (out(p, 0, 2) || noGroup(g) || noGroup(h) || g == h) return NUMBER;
        for (int pause = 1; pause <= 60; pause++) {
            Load alone = new Load();
            alone.plane = p;
            alone.groups.add(g);
            alone.groups.add(h);
            alone.pauses.add(1);
            alone.pauses.add(pause);
            if (isFree(nearness(alone, 0, 1))) return pause;
        }
        return NONE;
    }

    public int order(int l) {
        if (noLoad(l)) return NUMBER;
        Load load = loads.get(l);
        if (load.left) return STATE;
        if (load.groups.isEmpty()) return NONE;
        List<List<Integer>> orders = new ArrayList<>();
        makeOrders(new ArrayList<>(), load.groups, orders);
        List<Integer> best = null;
        int[][] known = new int[20][20];
        for (List<Integer> row : orders) {
            if (!ranksAllow(row) || sum(load.plane, row, known) < 0) continue;
            if (best == null || isBetter(load.plane, row, best, known)) best = row;
        }
        if (best == null) return NONE;
        load.groups.clear();
        load.groups.addAll(best);
        load.pauses.clear();
        load.pauses.add(1);
        for (int i = 1; i < best.size(); i++) load.pauses.add(between(load.plane, best.get(i - 1), best.get(i)));
        return sum(load.plane, best, known);
    }

    private static void makeOrders(List<Integer> made, List<Integer> all, List<List<Integer>> orders) {
        if (made.size() == all.size()) {
            orders.add(new ArrayList<>(made));
            return;
        }
        for (int g : all) {
            if (made.contains(g)) continue;
            made.add(g);
            makeOrders(made, all, orders);
            made.remove(made.size() - 1);
        }
    }

    private int sum(int p, List<Integer> row, int[][] known) {
        int sum = 0;
        for (int i = 1; i < row.size(); i++) {
            int g = row.get(i - 1);
            int h = row.get(i);
            if (known[g][h] == 0) known[g][h] = between(p, g, h);
            if (known[g][h] < 0) return -1;
            sum += known[g][h];
        }
        return sum;
    }

    private boolean isBetter(int p, List<Integer> row, List<Integer> best, int[][] known) {
        int rowSum = sum(p, row, known);
        int bestSum = sum(p, best, known);
        if (rowSum != bestSum) return rowSum < bestSum;
        for (int i = 0; i < row.size(); i++) {
            if (!row.get(i).equals(best.get(i))) return row.get(i) < best.get(i);
        }
        return false;
    }

    private boolean ranksAllow(List<Integer> row) {
        for (int i = 0; i < row.size(); i++) {
            for (int j = i + 1; j < row.size(); j++) {
                if (ranks[groups.get(row.get(j)).kind] < ranks[groups.get(row.get(i)).kind]) return false;
            }
        }
        return true;
    }

    private boolean isHome(Body down, long atX, Group group) {
        long reach = field + (long) group.forward * down.open;
        return atX * atX + down.y * down.y <= reach * reach;
    }

    public int spot(int l, int what) {
        if (noLoad(l) || out(what, 0, 1)) return -100002;
        Load load = loads.get(l);
        List<Body> down = new ArrayList<>();
        for (int i = 0; i < load.groups.size(); i++) down.add(bodyAt(load, i, 1000));
        for (int n = 0; n <= 100000; n++) {
            int start = what == 0 ? n - 50000 : 50000 - n;
            boolean all = true;
            for (int i = 0; i < down.size() && all; i++) {
                all = isHome(down.get(i), down.get(i).x - load.start + start, groups.get(load.groups.get(i)));
            }
            if (all) return start;
        }
        return -100001;
    }

    public int why(int l, int day) {
        if (noLoad(l) || out(day, 0, 1000)) return NUMBER;
        Load load = loads.get(l);
        if (load.left) return 1;
        if (load.groups.isEmpty()) return 2;
        int weight = 0;
        List<Integer> all = new ArrayList<>();
        for (int g : load.groups) {
            if (groups.get(g).jumpers.isEmpty()) return 2;
            all.addAll(groups.get(g).jumpers);
            weight += weight(g);
        }
        if (all.size() > planes[load.plane].seats) return 3;
        if (weight > planes[load.plane].bears) return 4;
        for (int j : all) if (jumpers[j].day < day) return 5;
        Set<Integer> unlike = new HashSet<>(all);
        if (unlike.size() < all.size()) return 6;
        for (int g : load.groups) if (needsHelp(groups.get(g))) return 7;
        int blows = wind[0][0] * wind[0][0] + wind[0][1] * wind[0][1];
        for (int g : load.groups) if (limits[groups.get(g).kind] < blows) return 8;
        if (!ranksAllow(load.groups)) return 9;
        for (int i = 0; i < load.groups.size(); i++) {
            for (int j = 0; j < i; j++) if (!isFree(nearness(load, i, j))) return 10;
        }
        for (int i = 0; i < load.groups.size(); i++) {
            Body down = bodyAt(load, i, 1000);
            if (!isHome(down, down.x, groups.get(load.groups.get(i)))) return 11;
        }
        return 0;
    }

    private boolean needsHelp(Group group) {
        int learners = 0;
        int helpers = 0;
        for (int j : group.jumpers) {
            if (jumpers[j].sort == 1) learners++;
            if (jumpers[j].sort == 2) helpers++;
        }
        return learners > helpers || (learners > 0 && group.kind != 3);
    }

    public int leave(int l, int day) {
        int bar = why(l, day);
        if (bar == NUMBER) return NUMBER;
        if (bar != 0) return STATE;
        Load load = loads.get(l);
        load.left = true;
        load.speedThen = planes[load.plane].speed;
        load.heightThen = planes[load.plane].height;
        load.windThen = new int[12][];
        for (int layer = 0; layer < 12; layer++) load.windThen[layer] = wind[layer].clone();
        return count(load);
    }

    private int count(Load load) {
        int n = 0;
        for (int g : load.groups) n += groups.get(g).jumpers.size();
        return n;
    }

    public int many(int what) {
        if (what == 0) return groups.size();
        if (what == 1) return loads.size();
        int left = 0;
        int up = 0;
        for (Load load : loads) {
            if (load.left) {
                left++;
                up += count(load);
            }
        }
        return what == 2 ? left : what == 3 ? up : -1;
    }
}
