import java.util.ArrayList;
import java.util.Arrays;
import java.util.List;

/**
 * Which numbers sheets, planes, jumpers, groups and loads bear counts nothing but where the document says so: the
 * same run is played with other numbers, and has to be answered likewise.
 */
public final class NumberTest {
    /** Groups keep their order: of like orders the one with the lesser group is the load's. */
    private static final int[][] GROUPS = {{0, 1, 2, 3, 4, 5, 6}, {13, 14, 15, 16, 17, 18, 19},
        {0, 1, 10, 11, 16, 17, 19}, {2, 3, 9, 12, 13, 18, 19}, {0, 4, 8, 12, 16, 18, 19}, {5, 6, 7, 8, 9, 10, 11}};
    private static final int[][] LOADS = {{0, 1, 2}, {9, 10, 11}, {0, 6, 7}, {2, 4, 8}, {3, 5, 11}, {1, 7, 10}};
    private static final int[][] PLANES = {{0, 1, 2}, {0, 2, 1}, {1, 0, 2}, {1, 2, 0}, {2, 0, 1}, {2, 1, 0}};

    private final JumpDesk x = new JumpDesk();
    private final List<Long> told = new ArrayList<>();
    private final int[] groups;
    private final int[] loads;
    private final int[] planes;
    private final int jumpers;
    private int groupsMade = 0;
    private int loadsMade = 0;

    private NumberTest(int[] groups, int[] loads, int[] planes, int jumpers) {
        this.groups = groups;
        this.loads = loads;
        this.planes = planes;
        this.jumpers = jumpers;
    }

    public static void main(String[] args) {
        sheets();
        orders();
        Due.part("terms 2 and 3: jumpers 0 to 31, groups 0 to 19, planes 0 to 2, loads 0 to 11");
        List<Long> first = play(GROUPS[0], LOADS[0], PLANES[0], 0);
        for (int n = 0; n < GROUPS.length; n++) {
            for (int m = 0; m < LOADS.length; m++) {
                for (int jumpers = 0; jumpers < 32; jumpers += 3) {
                    String what = "groups " + n + " loads and planes " + m + " jumpers " + jumpers;
                    Due.holds(what, play(GROUPS[n], LOADS[m], PLANES[m], jumpers).equals(first));
                }
            }
        }
        Due.due("answers", first.size(), 292);
        Due.end();
    }

    /** Jumper j of the run bears one of 32 numbers, each another one. */
    private int jumper(int j) {
        return (j * 5 + jumpers) % 32;
    }

    private int jumperOf(int number) {
        return number < 0 ? number : (number - jumpers + 32) % 32 * 13 % 32;
    }

    private static int indexOf(int[] row, int number) {
        for (int i = 0; i < row.length; i++) {
            if (row[i] == number) {
                return i;
            }
        }
        return number;
    }

    private static List<Long> play(int[] groups, int[] loads, int[] planes, int jumpers) {
        NumberTest run = new NumberTest(groups, loads, planes, jumpers);
        run.prepare();
        run.fill();
        run.askAll();
        run.leaveAndAsk();
        return run.told;
    }

    private void tell(long answer) {
        told.add(answer);
    }

    /** Those between that the run doesn't name are unlike its own, in no load and without groups. */
    private void group(int g, int kind, int opens, int forward, int direction) {
        while (groupsMade < groups[g]) {
            x.group(groupsMade % 4, 14000 - 50 * groupsMade, 0, 3);
            groupsMade++;
        }
        Due.due("group", x.group(kind, opens, forward, direction), groups[g]);
        groupsMade++;
    }

    private void load(int l, int p) {
        while (loadsMade < loads[l]) {
            x.load(loadsMade % 3);
            loadsMade++;
        }
        Due.due("load", x.load(planes[p]), loads[l]);
        loadsMade++;
    }

    private void prepare() {
        for (int layer = 0; layer < 12; layer++) {
            x.wind(layer, 12 * layer, 30 - 7 * layer);
        }
        x.rule(0, 2200);
        x.rule(1, 17000);
        x.plane(planes[0], 9, 900, 240, 39000);
        x.plane(planes[1], 6, 700, 310, 44000);
        x.plane(planes[2], 3, 300, 450, 18000);
        x.jumper(jumper(2), 2, 111, 600);
        x.jumper(jumper(3), 1, 47, 400);
        x.jumper(jumper(9), 0, 150, 90);
        x.jumper(jumper(10), 1, 60, 1000);
        x.jumper(jumper(31), 2, 199, 50);
        int[] kinds = {2, 3, 0, 1, 3, 0, 2};
        for (int g = 0; g < 7; g++) {
            group(g, kinds[g], 6100 + 777 * g, 20 * g, g % 4);
        }
        for (int l = 0; l < 3; l++) {
            load(l, 2 - l);
        }
    }

    private void fill() {
        int[][] members = {{0, 1}, {2, 3}, {4}, {9, 31}, {5}, {6, 7, 8}, {10, 9}};
        for (int g = 0; g < 7; g++) {
            for (int j : members[g]) {
                tell(x.join(groups[g], jumper(j)));
            }
        }
        tell(x.join(groups[5], jumper(7)));
        int[] row = {3, 0, 1, 2};
        for (int g : row) {
            tell(x.put(loads[2], groups[g], 8 + g));
        }
        tell(x.put(loads[1], groups[4], 3));
        tell(x.put(loads[1], groups[3], 3));
        tell(x.put(loads[1], groups[5], 30));
        tell(x.put(loads[0], groups[6], 3));
        tell(x.start(loads[2], -1500));
        tell(x.order(loads[2]));
        tell(x.order(loads[1]));
    }

    private void askAll() {
        for (int l = 0; l < 3; l++) {
            askLoad(l);
        }
        for (int g = 0; g < 7; g++) {
            for (int what = 0; what < 6; what++) {
                tell(x.of(groups[g], what));
            }
            for (int i = 0; i < 3; i++) {
                tell(jumperOf(x.of(groups[g], 10 + i)));
            }
        }
        for (int p = 0; p < 3; p++) {
            for (int g = 0; g < 7; g++) {
                tell(x.between(planes[p], groups[g], groups[(g + 3) % 7]));
            }
        }
    }

    private void askLoad(int l) {
        int load = loads[l];
        tell(indexOf(planes, x.in(load, 0)));
        for (int what = 1; what < 4; what++) {
            tell(x.in(load, what));
        }
        for (int i = 0; i < 5; i++) {
            tell(indexOf(groups, x.in(load, 10 + i)));
            tell(x.in(load, 20 + i));
            tell(x.in(load, 30 + i));
            for (int what = 0; what < 4; what++) {
                tell(x.where(load, i, 33 * i + 7, what));
            }
            tell(x.near(load, 1, i));
        }
        tell(x.spot(load, 0));
        tell(x.spot(load, 1));
        for (int day : new int[] {10, 80, 300, 500, 1000}) {
            tell(x.why(load, day));
        }
    }

    private void leaveAndAsk() {
        x.out(loads[2], 3);
        x.start(loads[2], x.spot(loads[2], 0));
        for (int l = 2; l >= 0; l--) {
            tell(x.why(loads[l], 10));
            tell(x.leave(loads[l], 10));
        }
        x.plane(planes[0], 2, 200, 600, 20000);
        x.wind(0, 90, 91);
        for (int l = 0; l < 3; l++) {
            for (int i = 0; i < 3; i++) {
                tell(x.where(loads[l], i, 400, 0));
                tell(x.near(loads[l], 0, i));
            }
            tell(x.spot(loads[l], 1));
        }
        tell(x.join(groups[0], jumper(30)));
        tell(x.many(2));
        tell(x.many(3));
    }

    /** Six groups that are unlike, with these numbers, by their places in the order that load 0 gets; its sum is last. */
    private static List<Integer> orderOf(int[] numbers) {
        int[] kinds = {3, 0, 2, 1, 3, 0};
        JumpDesk x = new JumpDesk();
        x.rule(0, 1700);
        for (int kind = 0; kind < 4; kind++) {
            x.rule(6 + kind, 1);
        }
        for (int layer = 0; layer < 12; layer++) {
            x.wind(layer, 150, 20 * layer);
        }
        x.plane(0, 10, 1000, 200, 30000);
        x.load(0);
        int made = 0;
        for (int i = 0; i < 6; i++) {
            while (made < numbers[i]) {
                x.group(1, 14000, 0, 0);
                made++;
            }
            made = 1 + x.group(kinds[i], 7000 + 1300 * (i * 5 % 6), 0, i % 4);
        }
        for (int i = 0; i < 6; i++) {
            x.put(0, numbers[i * 5 % 6], 1);
        }
        List<Integer> row = new ArrayList<>();
        int sum = x.order(0);
        for (int i = 0; i < 6; i++) {
            row.add(indexOf(numbers, x.in(0, 10 + i)));
            row.add(x.in(0, 20 + i));
        }
        row.add(sum);
        return row;
    }

    private static void orders() {
        Due.part("promise 25: an order of groups 0 to 19, whatever their numbers");
        List<Integer> first = orderOf(new int[] {0, 1, 2, 3, 4, 5});
        Due.holds("there is one, not by number", first.get(12) > 5 && first.get(2) > first.get(4));
        for (int set = 0; set < 1 << 20; set += 61) {
            if (Integer.bitCount(set) == 6) {
                int[] numbers = new int[6];
                int at = 0;
                for (int g = 0; g < 20; g++) {
                    if ((set >> g & 1) == 1) {
                        numbers[at++] = g;
                    }
                }
                Due.holds("groups " + Arrays.toString(numbers), orderOf(numbers).equals(first));
            }
        }
    }

    /** Of three sheets each is itself, whichever stand beside it; and so are the winds of each two. */
    private static void sheets() {
        Due.part("terms 1: sheets 0 to 2");
        int[][] due = {{10, 15, 20}, {-30, -30, -30}, {55, 0, -250}};
        for (int r = 0; r < 3; r++) {
            for (int q = 0; q < 3; q++) {
                JumpDesk x = new JumpDesk();
                makeSheets(x);
                Due.due("winds " + r + " " + q, x.winds(r, q), 1);
                for (int layer = 0; layer < 12; layer++) {
                    Due.due("x " + layer + " of " + r, x.blows(layer, 0), due[r][Math.min(layer, 2)]);
                    Due.due("y " + layer + " of " + q, x.blows(layer, 1), due[q][Math.min(layer, 2)]);
                }
                for (int i = 0; i < 3; i++) {
                    Due.due("told " + r, x.told(r, i), r == 1 && i > 0 ? Integer.MIN_VALUE : 100 * due[r][i]);
                }
            }
        }
    }

    private static void makeSheets(JumpDesk x) {
        x.sheet(0, 3);
        x.sheet(1, 1);
        x.sheet(2, 3);
        x.cell(0, 0, 1, 0);
        x.gap(0, 1);
        x.cell(0, 2, 2, 0);
        x.cell(1, 0, -3, 0);
        x.cell(2, 0, 11, 1);
        x.cell(2, 2, -25, 0);
    }
}
