/**
 * A desk of a drop field: winds by layers, jumpers in groups, loads that leave a plane along its line,
 * and what follows from these. ../shared/DOC.md says what each call answers; words in CAPITALS there are
 * the plain words here.
 *
 * All rows are made with the object: no call makes an object or an array.
 */
public final class JumpDesk {
    public static final int NUMBER = -1;
    public static final int FULL = -2;
    public static final int MISSING = -3;
    public static final int SIZE = -4;
    public static final int TWICE = -5;
    public static final int STATE = -6;
    public static final int NONE = -7;
    public static final long BEYOND = 1L << 60;

    private static final int NO_NUMBER_TOLD = -2147483648;
    private static final int NO_WIND_TOLD = -1000;
    private static final int NO_PLACE_TOLD = -1000000;
    private static final int NO_SPOT = -100001;
    private static final int NO_SPOT_ASKED = -100002;

    private static final int SHEETS = 3;
    private static final int SHEET_NUMBERS = 20;
    private static final int MOST_HALVINGS = 20;
    private static final int LAYERS = 12;
    private static final int LAYER_DEPTH = 4000;
    private static final int MOST_WIND = 300;

    private static final int JUMPERS = 32;
    private static final int GROUPS = 20;
    private static final int GROUP_JUMPERS = 4;
    private static final int PLANES = 3;
    private static final int LOADS = 12;
    private static final int LOAD_GROUPS = 6;

    private static final int LEARNER = 1;
    private static final int HELPER = 2;
    private static final int LAST_DAY = 1000;

    private static final int TRACK = 2;
    private static final int HIGH = 3;
    private static final int LAST_KIND = 3;
    /** By kind: ten times this is the most that a group falls in a second. */
    private static final int[] FASTEST = {50, 60, 45, 50};

    private static final int LAST_SECOND = 1000;
    private static final int LAST_THROW = 20;
    private static final int FIRST_TRACKED = 5;
    private static final int TRACKED = 80;
    private static final int HIGH_OPENS = 2;
    private static final int OPEN_FALL = 50;
    private static final int FALLS = 1;
    private static final int OPEN = 2;
    private static final int DOWN = 3;

    private static final int LONGEST_PAUSE = 60;
    private static final int FARTHEST_START = 50000;

    private static final int FREE_RULE = 0;
    private static final int FIELD_RULE = 1;
    private static final int LIMITS_RULE = 2;
    private static final int RANK_RULE = 6;
    private static final int LAST_RULE = 9;
    private static final int[] FIRST_RULES = {1000, 3000, 20000, 20000, 20000, 20000, 0, 1, 2, 3};
    private static final int[] MOST_RULES = {5000, 20000, 180000, 180000, 180000, 180000, 3, 3, 3, 3};

    private final Sheet[] sheets = new Sheet[SHEETS];
    private final Air air = new Air();
    private final Jumper[] jumpers = new Jumper[JUMPERS];
    private final Group[] groups = new Group[GROUPS];
    private final Plane[] planes = new Plane[PLANES];
    private final Load[] loads = new Load[LOADS];
    private final int[] rules = FIRST_RULES.clone();
    private final Fall[] falls = new Fall[LOAD_GROUPS];
    private final Line line = new Line();
    private int groupCount = 0;
    private int loadCount = 0;

    public JumpDesk() {
        for (int i = 0; i < sheets.length; i++) {
            sheets[i] = new Sheet();
        }
        for (int i = 0; i < jumpers.length; i++) {
            jumpers[i] = new Jumper(i);
        }
        for (int i = 0; i < groups.length; i++) {
            groups[i] = new Group(i);
        }
        for (int i = 0; i < planes.length; i++) {
            planes[i] = new Plane(i);
        }
        for (int i = 0; i < loads.length; i++) {
            loads[i] = new Load();
        }
        for (int i = 0; i < falls.length; i++) {
            falls[i] = new Fall();
        }
    }

    // ---- winds

    public int sheet(int r, int n) {
        Sheet sheet = sheetAt(r);
        if (sheet == null) {
            return NUMBER;
        }
        if (n < 0) {
            return SIZE;
        }
        if (n > SHEET_NUMBERS) {
            return NUMBER;
        }
        sheet.begin(n);
        return 1;
    }

    public int cell(int r, int i, int v, int k) {
        Sheet sheet = sheetAt(r);
        if (sheet == null || !within(k, 0, MOST_HALVINGS)) {
            return NUMBER;
        }
        if (!sheet.there) {
            return MISSING;
        }
        if (!sheet.has(i)) {
            return NUMBER;
        }
        sheet.write(i, (float) v / (float) (1 << k));
        return 1;
    }

    public int gap(int r, int i) {
        Sheet sheet = sheetAt(r);
        if (sheet == null) {
            return NUMBER;
        }
        if (!sheet.there) {
            return MISSING;
        }
        if (!sheet.has(i)) {
            return NUMBER;
        }
        sheet.blank(i);
        return 1;
    }

    public int lose(int r) {
        Sheet sheet = sheetAt(r);
        if (sheet == null) {
            return NUMBER;
        }
        if (!sheet.there) {
            return MISSING;
        }
        sheet.there = false;
        return 1;
    }

    public int told(int r, int i) {
        Sheet sheet = sheetAt(r);
        if (sheet == null || !sheet.there || !sheet.has(i)) {
            return NO_NUMBER_TOLD;
        }
        return (int) (sheet.filled(i) * 1000f);
    }

    public int winds(int r, int q) {
        Sheet alongX = sheetAt(r);
        Sheet alongY = sheetAt(q);
        if (alongX == null || alongY == null) {
            return NUMBER;
        }
        if (!alongX.there || !alongY.there) {
            return MISSING;
        }
        if (!tellsWinds(alongX) || !tellsWinds(alongY)) {
            return NUMBER;
        }
        for (int layer = 0; layer < LAYERS; layer++) {
            air.blowAt(layer, alongX.windOf(layer), alongY.windOf(layer));
        }
        return 1;
    }

    public int wind(int layer, int x, int y) {
        if (!within(layer, 0, LAYERS - 1) || !isWind(x) || !isWind(y)) {
            return NUMBER;
        }
        air.blowAt(layer, x, y);
        return 1;
    }

    public int blows(int layer, int what) {
        if (!within(layer, 0, LAYERS - 1) || !within(what, 0, 1)) {
            return NO_WIND_TOLD;
        }
        return what == 0 ? air.alongX(layer) : air.alongY(layer);
    }

    // ---- jumpers, groups, planes

    public int jumper(int j, int sort, int weight, int day) {
        Jumper jumper = jumperAt(j);
        if (jumper == null || !within(sort, 0, HELPER) || !within(weight, 40, 200) || !within(day, 0, LAST_DAY)) {
            return NUMBER;
        }
        jumper.become(sort, weight, day);
        return 1;
    }

    public int group(int kind, int opens, int forward, int direction) {
        if (!within(kind, 0, LAST_KIND) || !within(opens, 6000, 15000)) {
            return NUMBER;
        }
        if (!within(forward, 0, 150) || !within(direction, 0, 3)) {
            return NUMBER;
        }
        if (groupCount >= groups.length) {
            return FULL;
        }
        groups[groupCount].become(kind, opens, forward, direction);
        groupCount++;
        return groupCount - 1;
    }

    public int join(int g, int j) {
        Group group = groupAt(g);
        Jumper jumper = jumperAt(j);
        if (group == null || jumper == null) {
            return NUMBER;
        }
        if (isInSomeLoad(group, true)) {
            return STATE;
        }
        if (group.holds(jumper)) {
            return TWICE;
        }
        if (group.count >= GROUP_JUMPERS) {
            return FULL;
        }
        group.add(jumper);
        return group.count;
    }

    public int of(int g, int what) {
        Group group = groupAt(g);
        return group == null ? -1 : group.tell(what);
    }

    public int plane(int p, int seats, int bears, int speed, int height) {
        Plane plane = planeAt(p);
        if (plane == null || !within(seats, 1, 20) || !within(bears, 100, 4000)) {
            return NUMBER;
        }
        if (!within(speed, 200, 600) || !within(height, 15000, 47000)) {
            return NUMBER;
        }
        plane.become(seats, bears, speed, height);
        return 1;
    }

    public int rule(int what, int v) {
        if (!within(what, 0, LAST_RULE) || !within(v, 0, MOST_RULES[what])) {
            return NUMBER;
        }
        int was = rules[what];
        rules[what] = v;
        return was;
    }

    // ---- loads

    public int load(int p) {
        Plane plane = planeAt(p);
        if (plane == null) {
            return NUMBER;
        }
        if (loadCount >= loads.length) {
            return FULL;
        }
        loads[loadCount].begin(plane, air);
        loadCount++;
        return loadCount - 1;
    }

    public int put(int l, int g, int pause) {
        Load load = loadAt(l);
        Group group = groupAt(g);
        if (load == null || group == null || !isPause(pause)) {
            return NUMBER;
        }
        if (load.left) {
            return STATE;
        }
        if (isInSomeLoad(group, false)) {
            return TWICE;
        }
        if (load.count >= LOAD_GROUPS) {
            return FULL;
        }
        load.add(group, pause);
        return load.count;
    }

    public int out(int l, int i) {
        Load load = loadAt(l);
        if (load == null || !load.has(i)) {
            return NUMBER;
        }
        if (load.left) {
            return STATE;
        }
        load.remove(i);
        return load.count;
    }

    public int pause(int l, int i, int pause) {
        Load load = loadAt(l);
        if (load == null || !load.has(i) || !isPause(pause)) {
            return NUMBER;
        }
        if (load.left) {
            return STATE;
        }
        load.pauses[i] = pause;
        return 1;
    }

    public int start(int l, int x) {
        Load load = loadAt(l);
        if (load == null || !within(x, -FARTHEST_START, FARTHEST_START)) {
            return NUMBER;
        }
        if (load.left) {
            return STATE;
        }
        load.start = x;
        return 1;
    }

    public int in(int l, int what) {
        Load load = loadAt(l);
        return load == null ? -1 : load.tell(what);
    }

    public int where(int l, int i, int t, int what) {
        Load load = loadAt(l);
        if (load == null || !load.has(i) || !within(t, 0, LAST_SECOND) || !within(what, 0, 3)) {
            return NO_PLACE_TOLD;
        }
        Fall fall = falls[0];
        fall.follow(load.groups[i], load.plane, load.air);
        int second = Math.min(t, fall.down);
        switch (what) {
            case 0:
                return load.leavesAtX(i) + fall.x[second];
            case 1:
                return fall.y[second];
            case 2:
                return fall.height[second];
            default:
                return fall.stateAt(second);
        }
    }

    public long near(int l, int i, int j) {
        Load load = loadAt(l);
        if (load == null || !load.has(i) || !load.has(j) || i == j) {
            return NUMBER;
        }
        int ahead = Math.min(i, j);
        int behind = Math.max(i, j);
        falls[0].follow(load.groups[ahead], load.plane, load.air);
        falls[1].follow(load.groups[behind], load.plane, load.air);
        int pause = load.secondOf(behind) - load.secondOf(ahead);
        return falls[0].nearTo(falls[1], pause, load.plane.speed, 0);
    }

    public int between(int p, int g, int h) {
        Plane plane = planeAt(p);
        Group ahead = groupAt(g);
        Group behind = groupAt(h);
        if (plane == null || ahead == null || behind == null || ahead == behind) {
            return NUMBER;
        }
        falls[0].follow(ahead, plane, air);
        falls[1].follow(behind, plane, air);
        int pause = leastPause(falls[0], falls[1], plane.speed);
        return pause == 0 ? NONE : pause;
    }

    public int order(int l) {
        Load load = loadAt(l);
        if (load == null) {
            return NUMBER;
        }
        if (load.left) {
            return STATE;
        }
        if (load.count == 0) {
            return NONE;
        }
        measurePauses(load);
        line.begin(load);
        if (!line.findShortest()) {
            return NONE;
        }
        line.giveTo(load, groups);
        return line.shortest;
    }

    public int spot(int l, int what) {
        Load load = loadAt(l);
        if (load == null || !within(what, 0, 1)) {
            return NO_SPOT_ASKED;
        }
        followAll(load);
        int least = -FARTHEST_START;
        int greatest = FARTHEST_START;
        for (int i = 0; i < load.count; i++) {
            int room = roomAlongX(load.groups[i], falls[i]);
            if (room < 0) {
                return NO_SPOT;
            }
            int drift = load.leavesAtX(i) - load.start + falls[i].downX();
            least = Math.max(least, -drift - room);
            greatest = Math.min(greatest, -drift + room);
        }
        if (least > greatest) {
            return NO_SPOT;
        }
        return what == 0 ? least : greatest;
    }

    public int why(int l, int day) {
        Load load = loadAt(l);
        if (load == null || !within(day, 0, LAST_DAY)) {
            return NUMBER;
        }
        if (load.left) {
            return 1;
        }
        if (load.lacksJumpers()) {
            return 2;
        }
        if (load.jumperCount() > load.plane.seats) {
            return 3;
        }
        if (load.weight() > load.plane.bears) {
            return 4;
        }
        if (load.isWornOn(day)) {
            return 5;
        }
        if (load.holdsOneTwice()) {
            return 6;
        }
        if (load.lacksHelp()) {
            return 7;
        }
        return whyByFall(load);
    }

    public int leave(int l, int day) {
        int bar = why(l, day);
        if (bar == NUMBER) {
            return NUMBER;
        }
        Load load = loadAt(l);
        if (bar != 0 || load == null) {
            return STATE;
        }
        load.goUp();
        return load.jumperCount();
    }

    public int many(int what) {
        switch (what) {
            case 0:
                return groupCount;
            case 1:
                return loadCount;
            case 2:
                return leftCount();
            case 3:
                return upCount();
            default:
                return -1;
        }
    }

    // ---- what numbers may be, and what stands at them

    private static boolean within(int v, int least, int most) {
        return v >= least && v <= most;
    }

    private static boolean isWind(int v) {
        return within(v, -MOST_WIND, MOST_WIND);
    }

    private static boolean isPause(int v) {
        return within(v, 1, LONGEST_PAUSE);
    }

    private Sheet sheetAt(int r) {
        return r >= 0 && r < sheets.length ? sheets[r] : null;
    }

    private Jumper jumperAt(int j) {
        return j >= 0 && j < jumpers.length ? jumpers[j] : null;
    }

    private Plane planeAt(int p) {
        return p >= 0 && p < planes.length ? planes[p] : null;
    }

    private Group groupAt(int g) {
        return g >= 0 && g < groupCount && g < groups.length ? groups[g] : null;
    }

    private Load loadAt(int l) {
        return l >= 0 && l < loadCount && l < loads.length ? loads[l] : null;
    }

    private static boolean tellsWinds(Sheet sheet) {
        if (sheet.length == 0) {
            return false;
        }
        for (int layer = 0; layer < LAYERS; layer++) {
            if (!isWind(sheet.windOf(layer))) {
                return false;
            }
        }
        return true;
    }

    private boolean isInSomeLoad(Group group, boolean left) {
        for (int l = 0; l < loadCount; l++) {
            if (loads[l].left == left && loads[l].holds(group)) {
                return true;
            }
        }
        return false;
    }

    private int leftCount() {
        int n = 0;
        for (int l = 0; l < loadCount; l++) {
            if (loads[l].left) {
                n++;
            }
        }
        return n;
    }

    /** A group of a load that has left takes no more jumpers, so those who went up are those in it now. */
    private int upCount() {
        int n = 0;
        for (int l = 0; l < loadCount; l++) {
            if (loads[l].left) {
                n += loads[l].jumperCount();
            }
        }
        return n;
    }

    // ---- what the rules say of a load

    private int whyByFall(Load load) {
        if (isTooWindy(load)) {
            return 8;
        }
        if (!ranksAllow(load)) {
            return 9;
        }
        followAll(load);
        if (!allFree(load)) {
            return 10;
        }
        return allHome(load) ? 0 : 11;
    }

    private boolean isTooWindy(Load load) {
        int blows = load.air.squareOnGround();
        for (int i = 0; i < load.count; i++) {
            if (rules[LIMITS_RULE + load.groups[i].kind] < blows) {
                return true;
            }
        }
        return false;
    }

    private boolean mayLeaveAhead(Group ahead, Group behind) {
        return rules[RANK_RULE + ahead.kind] <= rules[RANK_RULE + behind.kind];
    }

    /** Ranks that never fall from one group to the next fall between no two. */
    private boolean ranksAllow(Load load) {
        for (int i = 1; i < load.count; i++) {
            if (!mayLeaveAhead(load.groups[i - 1], load.groups[i])) {
                return false;
            }
        }
        return true;
    }

    private void followAll(Load load) {
        for (int i = 0; i < load.count && i < falls.length; i++) {
            falls[i].follow(load.groups[i], load.plane, load.air);
        }
    }

    private boolean areFree(Fall ahead, Fall behind, int pause, int speed) {
        long free = (long) rules[FREE_RULE] * rules[FREE_RULE];
        return ahead.nearTo(behind, pause, speed, free) >= free;
    }

    /** The falls are those of followAll. */
    private boolean allFree(Load load) {
        for (int i = 0; i < load.count; i++) {
            for (int j = i + 1; j < load.count; j++) {
                int pause = load.secondOf(j) - load.secondOf(i);
                if (!areFree(falls[i], falls[j], pause, load.plane.speed)) {
                    return false;
                }
            }
        }
        return true;
    }

    /** The least pause with which both are free, or 0. */
    private int leastPause(Fall ahead, Fall behind, int speed) {
        for (int pause = 1; pause <= LONGEST_PAUSE; pause++) {
            if (areFree(ahead, behind, pause, speed)) {
                return pause;
            }
        }
        return 0;
    }

    private void measurePauses(Load load) {
        followAll(load);
        for (int i = 0; i < load.count; i++) {
            for (int j = 0; j < load.count; j++) {
                Group ahead = load.groups[i];
                Group behind = load.groups[j];
                boolean allowed = i != j && mayLeaveAhead(ahead, behind);
                int pause = allowed ? leastPause(falls[i], falls[j], load.plane.speed) : 0;
                line.measure(ahead, behind, pause);
            }
        }
    }

    private long reachSquare(Group group, Fall fall) {
        long reach = rules[FIELD_RULE] + (long) group.forward * fall.secondsOpen();
        return reach * reach;
    }

    /** The falls are those of followAll. */
    private boolean allHome(Load load) {
        for (int i = 0; i < load.count; i++) {
            long x = load.leavesAtX(i) + falls[i].downX();
            long y = falls[i].downY();
            if (x * x + y * y > reachSquare(load.groups[i], falls[i])) {
                return false;
            }
        }
        return true;
    }

    /** How far along x from the middle of the field a group may come down to be home; -1 if its y bars it. */
    private int roomAlongX(Group group, Fall fall) {
        long y = fall.downY();
        long square = reachSquare(group, fall) - y * y;
        return square < 0 ? -1 : wholeRoot(square);
    }

    /** The greatest whole number whose square isn't above this one; reaches stay far below 2 to the power of 20. */
    private static int wholeRoot(long square) {
        int root = 0;
        for (int bit = 1 << 20; bit > 0; bit >>= 1) {
            long tried = root + bit;
            if (tried * tried <= square) {
                root += bit;
            }
        }
        return root;
    }

    /** A row of numbers with gaps. Gaps stand beside the numbers: no float here is ever not a number. */
    private static final class Sheet {
        private final float[] numbers = new float[SHEET_NUMBERS];
        private final boolean[] gaps = new boolean[SHEET_NUMBERS];
        private int length = 0;
        private boolean there = false;

        private void begin(int n) {
            for (int i = 0; i < numbers.length; i++) {
                numbers[i] = 0f;
                gaps[i] = false;
            }
            length = n;
            there = true;
        }

        private boolean has(int i) {
            return i >= 0 && i < length && i < numbers.length;
        }

        private void write(int i, float v) {
            if (has(i)) {
                numbers[i] = v;
                gaps[i] = false;
            }
        }

        private void blank(int i) {
            if (has(i)) {
                gaps[i] = true;
            }
        }

        private float filled(int i) {
            if (!has(i)) {
                return 0f;
            }
            if (!gaps[i]) {
                return numbers[i];
            }
            int below = knownBelow(i);
            int above = knownAbove(i);
            if (below >= 0 && above >= 0) {
                return (numbers[below] + numbers[above]) / 2f;
            }
            if (below >= 0) {
                return numbers[below];
            }
            return above >= 0 ? numbers[above] : 0f;
        }

        private int knownBelow(int i) {
            for (int at = i - 1; at >= 0; at--) {
                if (!gaps[at]) {
                    return at;
                }
            }
            return -1;
        }

        private int knownAbove(int i) {
            for (int at = i + 1; at < length; at++) {
                if (!gaps[at]) {
                    return at;
                }
            }
            return -1;
        }

        private int windOf(int layer) {
            return (int) (filled(Math.min(layer, length - 1)) * 10f);
        }
    }

    /** The winds of all layers. */
    private static final class Air {
        private final int[] x = new int[LAYERS];
        private final int[] y = new int[LAYERS];

        private void blowAt(int layer, int alongX, int alongY) {
            if (layer >= 0 && layer < LAYERS) {
                x[layer] = alongX;
                y[layer] = alongY;
            }
        }

        private void blowAs(Air other) {
            for (int layer = 0; layer < LAYERS; layer++) {
                x[layer] = other.x[layer];
                y[layer] = other.y[layer];
            }
        }

        private int alongX(int layer) {
            return layer >= 0 && layer < LAYERS ? x[layer] : 0;
        }

        private int alongY(int layer) {
            return layer >= 0 && layer < LAYERS ? y[layer] : 0;
        }

        private int squareOnGround() {
            return x[0] * x[0] + y[0] * y[0];
        }
    }

    private static final class Jumper {
        private final int number;
        private int sort = 0;
        private int weight = 80;
        private int day = LAST_DAY;

        private Jumper(int number) {
            this.number = number;
        }

        private void become(int newSort, int newWeight, int newDay) {
            sort = newSort;
            weight = newWeight;
            day = newDay;
        }
    }

    private static final class Group {
        private final int number;
        private final Jumper[] members = new Jumper[GROUP_JUMPERS];
        private int count = 0;
        private int kind = 0;
        private int opens = 0;
        private int forward = 0;
        private int direction = 0;

        private Group(int number) {
            this.number = number;
        }

        private void become(int newKind, int newOpens, int newForward, int newDirection) {
            kind = newKind;
            opens = newOpens;
            forward = newForward;
            direction = newDirection;
        }

        private boolean holds(Jumper jumper) {
            for (int i = 0; i < count; i++) {
                if (members[i] == jumper) {
                    return true;
                }
            }
            return false;
        }

        private void add(Jumper jumper) {
            if (count < members.length) {
                members[count] = jumper;
                count++;
            }
        }

        private int tell(int what) {
            switch (what) {
                case 0:
                    return kind;
                case 1:
                    return opens;
                case 2:
                    return forward;
                case 3:
                    return direction;
                case 4:
                    return count;
                case 5:
                    return weight();
                default:
                    return what >= 10 && what < 10 + count ? members[what - 10].number : -1;
            }
        }

        private int weight() {
            int sum = 0;
            for (int i = 0; i < count; i++) {
                sum += members[i].weight;
            }
            return sum;
        }

        private int countOf(int sort) {
            int n = 0;
            for (int i = 0; i < count; i++) {
                if (members[i].sort == sort) {
                    n++;
                }
            }
            return n;
        }

        private boolean lacksHelp() {
            int learners = countOf(LEARNER);
            return learners > countOf(HELPER) || learners > 0 && kind != HIGH;
        }

        private boolean isWornOn(int day) {
            for (int i = 0; i < count; i++) {
                if (members[i].day < day) {
                    return true;
                }
            }
            return false;
        }

        private boolean sharesOneWith(Group other) {
            for (int i = 0; i < count; i++) {
                if (other.holds(members[i])) {
                    return true;
                }
            }
            return false;
        }

        /** How much lower it is behind second s of its fall. */
        private int dropIn(int s) {
            int gathered = 10 * (s + 1);
            return 10 * (gathered < FASTEST[kind] ? gathered : FASTEST[kind]);
        }

        private boolean opensBehind(int s, int height) {
            return height <= opens || kind == HIGH && s >= HIGH_OPENS;
        }
    }

    private static final class Plane {
        private int number;
        private int seats = 10;
        private int bears = 1000;
        private int speed = 400;
        private int height = 40000;

        private Plane(int number) {
            this.number = number;
        }

        private void become(int newSeats, int newBears, int newSpeed, int newHeight) {
            seats = newSeats;
            bears = newBears;
            speed = newSpeed;
            height = newHeight;
        }

        private void becomeAs(Plane other) {
            number = other.number;
            become(other.seats, other.bears, other.speed, other.height);
        }
    }

    /** Its plane and its air are the desk's until it leaves; from then on they are its own, as they were then. */
    private static final class Load {
        private final Group[] groups = new Group[LOAD_GROUPS];
        private final int[] pauses = new int[LOAD_GROUPS];
        private final Plane ownPlane = new Plane(0);
        private final Air ownAir = new Air();
        private Plane plane = ownPlane;
        private Air air = ownAir;
        private int count = 0;
        private int start = 0;
        private boolean left = false;

        private void begin(Plane deskPlane, Air deskAir) {
            plane = deskPlane;
            air = deskAir;
        }

        private void goUp() {
            ownPlane.becomeAs(plane);
            ownAir.blowAs(air);
            plane = ownPlane;
            air = ownAir;
            left = true;
        }

        private boolean has(int i) {
            return i >= 0 && i < count && i < groups.length;
        }

        private boolean holds(Group group) {
            for (int i = 0; i < count; i++) {
                if (groups[i] == group) {
                    return true;
                }
            }
            return false;
        }

        private void add(Group group, int pause) {
            if (count < groups.length) {
                groups[count] = group;
                pauses[count] = pause;
                count++;
            }
        }

        private void remove(int i) {
            if (!has(i)) {
                return;
            }
            for (int at = i + 1; at < count; at++) {
                groups[at - 1] = groups[at];
                pauses[at - 1] = pauses[at];
            }
            count--;
        }

        private int tell(int what) {
            switch (what) {
                case 0:
                    return plane.number;
                case 1:
                    return count;
                case 2:
                    return start;
                case 3:
                    return left ? 1 : 0;
                default:
                    return tellOfPlace(what);
            }
        }

        private int tellOfPlace(int what) {
            if (what < 10 || what >= 40 || !has(what % 10)) {
                return -1;
            }
            int i = what % 10;
            if (what < 20) {
                return groups[i].number;
            }
            return what < 30 ? pauses[i] : secondOf(i);
        }

        private int secondOf(int i) {
            int second = 0;
            for (int at = 1; at <= i && at < count; at++) {
                second += pauses[at];
            }
            return second;
        }

        private int leavesAtX(int i) {
            return start + plane.speed * secondOf(i);
        }

        private boolean lacksJumpers() {
            for (int i = 0; i < count; i++) {
                if (groups[i].count == 0) {
                    return true;
                }
            }
            return count == 0;
        }

        private int jumperCount() {
            int n = 0;
            for (int i = 0; i < count; i++) {
                n += groups[i].count;
            }
            return n;
        }

        private int weight() {
            int sum = 0;
            for (int i = 0; i < count; i++) {
                sum += groups[i].weight();
            }
            return sum;
        }

        private boolean isWornOn(int day) {
            for (int i = 0; i < count; i++) {
                if (groups[i].isWornOn(day)) {
                    return true;
                }
            }
            return false;
        }

        private boolean holdsOneTwice() {
            for (int i = 0; i < count; i++) {
                for (int j = i + 1; j < count; j++) {
                    if (groups[i].sharesOneWith(groups[j])) {
                        return true;
                    }
                }
            }
            return false;
        }

        private boolean lacksHelp() {
            for (int i = 0; i < count; i++) {
                if (groups[i].lacksHelp()) {
                    return true;
                }
            }
            return false;
        }
    }

    /**
     * The way of one group, second by second behind its leaving, with x as seen from where it left.
     * The longest way (high, from 47000) ends at second 931, so the rows hold every one.
     */
    private static final class Fall {
        private final int[] x = new int[LAST_SECOND + 1];
        private final int[] y = new int[LAST_SECOND + 1];
        private final int[] height = new int[LAST_SECOND + 1];
        private int opened = 0;
        private int down = 0;

        private void follow(Group group, Plane plane, Air air) {
            x[0] = 0;
            y[0] = 0;
            height[0] = plane.height;
            opened = LAST_SECOND;
            down = LAST_SECOND;
            for (int s = 0; s < LAST_SECOND; s++) {
                drift(s, air);
                if (s >= opened) {
                    height[s + 1] = Math.max(height[s] - OPEN_FALL, 0);
                } else {
                    fall(s, group, plane.speed);
                }
                if (height[s + 1] == 0) {
                    down = s + 1;
                    return;
                }
            }
        }

        private void drift(int s, Air air) {
            int layer = height[s] / LAYER_DEPTH;
            x[s + 1] = x[s] + air.alongX(layer);
            y[s + 1] = y[s] + air.alongY(layer);
        }

        private void fall(int s, Group group, int speed) {
            if (s <= LAST_THROW) {
                x[s + 1] += speed >> (s + 1);
            }
            if (group.kind == TRACK && s >= FIRST_TRACKED) {
                track(s, group.direction);
            }
            height[s + 1] = height[s] - group.dropIn(s);
            if (group.opensBehind(s, height[s + 1])) {
                opened = s + 1;
            }
        }

        private void track(int s, int direction) {
            switch (direction) {
                case 0:
                    x[s + 1] += TRACKED;
                    break;
                case 1:
                    y[s + 1] += TRACKED;
                    break;
                case 2:
                    x[s + 1] -= TRACKED;
                    break;
                default:
                    y[s + 1] -= TRACKED;
                    break;
            }
        }

        private int stateAt(int second) {
            if (second >= down) {
                return DOWN;
            }
            return second >= opened ? OPEN : FALLS;
        }

        private int secondsOpen() {
            return down - opened;
        }

        private int downX() {
            return x[down];
        }

        private int downY() {
            return y[down];
        }

        /**
         * The least square between this one and one that leaves so many seconds later, out of a plane of that
         * speed. The search ends at the first square below the bound: then how far below is of no account.
         */
        private long nearTo(Fall later, int pause, int speed, long bound) {
            long least = BEYOND;
            long apart = (long) speed * pause;
            int seconds = Math.min(down - pause, later.down);
            for (int s = 0; s < seconds && pause >= 0 && least >= bound; s++) {
                long dx = apart + later.x[s] - x[s + pause];
                long dy = later.y[s] - y[s + pause];
                long dz = later.height[s] - height[s + pause];
                least = Math.min(least, dx * dx + dy * dy + dz * dz);
            }
            return least;
        }
    }

    /** Looks through the orders of a load's groups, which stand in its rows by their numbers. */
    private static final class Line {
        private static final int MOST_ORDERS = 720;

        /** By the group ahead times GROUPS and the group behind: the pause between them; 0 bars it. */
        private final int[] pauses = new int[GROUPS * GROUPS];
        private final int[] row = new int[LOAD_GROUPS];
        private final int[] best = new int[LOAD_GROUPS];
        private int count = 0;
        private int shortest = 0;

        private void measure(Group ahead, Group behind, int pause) {
            pauses[ahead.number * GROUPS + behind.number] = pause;
        }

        private int pauseBetween(int ahead, int behind) {
            return pauses[ahead * GROUPS + behind];
        }

        /** The row begins as the first of all orders: by number. */
        private void begin(Load load) {
            count = load.count;
            for (int i = 0; i < count; i++) {
                int number = load.groups[i].number;
                int at = i;
                while (at > 0 && row[at - 1] > number) {
                    row[at] = row[at - 1];
                    at--;
                }
                row[at] = number;
            }
        }

        /** Of orders with the same sum the first one met stays: the one with the lesser group. */
        private boolean findShortest() {
            boolean found = false;
            for (int tried = 0; tried < MOST_ORDERS; tried++) {
                int sum = sumOfRow();
                if (sum >= 0 && (!found || sum < shortest)) {
                    found = true;
                    shortest = sum;
                    System.arraycopy(row, 0, best, 0, count);
                }
                if (!stepRow()) {
                    return found;
                }
            }
            return found;
        }

        /** -1 if two of the row may not follow each other. */
        private int sumOfRow() {
            int sum = 0;
            for (int i = 1; i < count; i++) {
                int pause = pauseBetween(row[i - 1], row[i]);
                if (pause == 0) {
                    return -1;
                }
                sum += pause;
            }
            return sum;
        }

        /** The row becomes the next greater one of the same numbers; false if it was the greatest. */
        private boolean stepRow() {
            int rising = count - 2;
            while (rising >= 0 && row[rising] > row[rising + 1]) {
                rising--;
            }
            if (rising < 0) {
                return false;
            }
            int greater = count - 1;
            while (greater > rising + 1 && row[greater] < row[rising]) {
                greater--;
            }
            swap(rising, greater);
            for (int low = rising + 1, high = count - 1; low < high; low++, high--) {
                swap(low, high);
            }
            return true;
        }

        private void swap(int i, int j) {
            int kept = row[i];
            row[i] = row[j];
            row[j] = kept;
        }

        private void giveTo(Load load, Group[] groups) {
            for (int i = 0; i < count && i < load.groups.length; i++) {
                load.groups[i] = groups[best[i]];
                load.pauses[i] = i == 0 ? 1 : pauseBetween(best[i - 1], best[i]);
            }
        }
    }
}
