/** An object is used for at most 512 calls after it has been made: the last of them is answered like the first. */
public final class CallsTest {
    private static final int CALLS = 512;

    private interface Call {
        long on(JumpDesk x, int n);
    }

    private interface Answer {
        long to(int n);
    }

    public static void main(String[] args) {
        Due.part("what it is: 512 calls");
        newOnes();
        winds();
        jumpersAndGroups();
        loads();
        flights();
        turns();
        Due.end();
    }

    /** Nine calls: groups 0 and 1 with a jumper each, in load 0 of plane 0, and a field for it. */
    private static final int MADE = 9;

    private static void make(JumpDesk x) {
        x.rule(1, 20000);
        x.sheet(0, 3);
        x.group(0, 9000, 0, 0);
        x.group(0, 9000, 0, 0);
        x.join(0, 0);
        x.join(1, 1);
        x.load(0);
        x.put(0, 0, 9);
        x.put(0, 1, 9);
    }

    /** The same call, n being 0, 1, .., up to the object's last. */
    private static void all(String what, Call call, Answer due) {
        JumpDesk x = new JumpDesk();
        make(x);
        again(what, x, CALLS - MADE, call, due);
    }

    private static void again(String what, JumpDesk x, int calls, Call call, Answer due) {
        for (int n = 0; n < calls; n++) {
            Due.due(what + ", once more " + n, call.on(x, n), due.to(n));
        }
    }

    private static void allOfNew(String what, Call call, Answer due) {
        again(what + " of a new object", new JumpDesk(), CALLS, call, due);
    }

    private static void newOnes() {
        allOfNew("sheet", (x, n) -> x.sheet(0, n % 21), n -> 1);
        allOfNew("cell", (x, n) -> x.cell(0, 0, n, 0), n -> JumpDesk.MISSING);
        allOfNew("gap", (x, n) -> x.gap(0, 0), n -> JumpDesk.MISSING);
        allOfNew("lose", (x, n) -> x.lose(n % 3), n -> JumpDesk.MISSING);
        allOfNew("told", (x, n) -> x.told(0, 0), n -> Integer.MIN_VALUE);
        allOfNew("winds", (x, n) -> x.winds(0, 1), n -> JumpDesk.MISSING);
        allOfNew("wind", (x, n) -> x.wind(n % 12, n % 301, 0), n -> 1);
        allOfNew("blows", (x, n) -> x.blows(n % 12, n % 2), n -> 0);
        allOfNew("jumper", (x, n) -> x.jumper(n % 32, n % 3, 40 + n % 161, n), n -> 1);
        allOfNew("group", (x, n) -> x.group(n % 4, 9000, 0, 0), n -> n < 20 ? n : JumpDesk.FULL);
        allOfNew("join", (x, n) -> x.join(0, n % 32), n -> JumpDesk.NUMBER);
        allOfNew("of", (x, n) -> x.of(0, n % 6), n -> -1);
        allOfNew("plane", (x, n) -> x.plane(n % 3, 1 + n % 20, 100 + n, 200 + n % 401, 40000), n -> 1);
        allOfNew("rule", (x, n) -> x.rule(0, n), n -> n == 0 ? 1000 : n - 1);
        allOfNew("load", (x, n) -> x.load(n % 3), n -> n < 12 ? n : JumpDesk.FULL);
        allOfNew("put", (x, n) -> x.put(0, 0, 1), n -> JumpDesk.NUMBER);
        allOfNew("out", (x, n) -> x.out(0, 0), n -> JumpDesk.NUMBER);
        allOfNew("pause", (x, n) -> x.pause(0, 0, 1), n -> JumpDesk.NUMBER);
        allOfNew("start", (x, n) -> x.start(0, n), n -> JumpDesk.NUMBER);
        allOfNew("in", (x, n) -> x.in(0, n % 4), n -> -1);
        allOfNew("where", (x, n) -> x.where(0, 0, n, 0), n -> -1000000);
        allOfNew("near", (x, n) -> x.near(0, 0, 1), n -> JumpDesk.NUMBER);
        allOfNew("between", (x, n) -> x.between(n % 3, 0, 1), n -> JumpDesk.NUMBER);
        allOfNew("order", (x, n) -> x.order(0), n -> JumpDesk.NUMBER);
        allOfNew("spot", (x, n) -> x.spot(0, n % 2), n -> -100002);
        allOfNew("why", (x, n) -> x.why(0, n), n -> JumpDesk.NUMBER);
        allOfNew("leave", (x, n) -> x.leave(0, n), n -> JumpDesk.NUMBER);
        allOfNew("many", (x, n) -> x.many(n % 4), n -> 0);
    }

    private static void all(String what, Call call, long due) {
        all(what, call, n -> due);
    }

    private static void winds() {
        all("sheet", (x, n) -> x.sheet(n % 3, n % 21), 1);
        all("cell", (x, n) -> x.cell(0, n % 3, n, 3), 1);
        all("gap", (x, n) -> x.gap(0, n % 3), 1);
        all("lose", (x, n) -> x.lose(0), n -> n == 0 ? 1 : JumpDesk.MISSING);
        all("told", (x, n) -> x.told(0, 2), 0);
        all("winds", (x, n) -> x.winds(0, 0), 1);
        all("wind", (x, n) -> x.wind(n % 12, n % 300, -n % 300), 1);
        all("blows", (x, n) -> x.blows(n % 12, n % 2), 0);
        all("a cell, told", (x, n) -> n % 2 == 0 ? x.cell(0, 1, n, 0) : x.told(0, 1), n -> n % 2 == 0 ? 1 : 1000 * (n - 1));
        all("a wind, blown", (x, n) -> n % 2 == 0 ? x.wind(3, n % 300, 0) : x.blows(3, 0), n -> n % 2 == 0 ? 1 : (n - 1) % 300);
    }

    private static void jumpersAndGroups() {
        all("jumper", (x, n) -> x.jumper(n % 32, n % 3, 40 + n % 161, n), 1);
        all("group", (x, n) -> x.group(n % 4, 9000, 0, 0), n -> n < 18 ? 2 + n : JumpDesk.FULL);
        all("join", (x, n) -> x.join(0, n % 32), n -> n >= 1 && n <= 3 ? n + 1 : n % 32 <= 3 ? JumpDesk.TWICE : JumpDesk.FULL);
        all("of", (x, n) -> x.of(1, 10), 1);
        all("plane", (x, n) -> x.plane(n % 3, 1 + n % 20, 100 + n, 200 + n % 400, 40000), 1);
        all("rule", (x, n) -> x.rule(0, n), n -> n == 0 ? 1000 : n - 1);
    }

    private static void loads() {
        all("load", (x, n) -> x.load(n % 3), n -> n < 11 ? n + 1 : JumpDesk.FULL);
        all("put", (x, n) -> x.put(0, n % 2, 5), JumpDesk.TWICE);
        all("out and put", (x, n) -> n % 2 == 0 ? x.out(0, 0) : x.put(0, n / 2 % 2, 5), n -> 1 + n % 2);
        all("pause", (x, n) -> x.pause(0, 1, 1 + n % 60), 1);
        all("start", (x, n) -> x.start(0, n), 1);
        all("a start, told", (x, n) -> n % 2 == 0 ? x.start(0, n) : x.in(0, 2), n -> n % 2 == 0 ? 1 : n - 1);
        all("in", (x, n) -> x.in(0, 31), 9);
        all("many", (x, n) -> x.many(n % 4), n -> n % 4 == 0 ? 2 : n % 4 == 1 ? 1 : 0);
        all("leave", (x, n) -> x.leave(0, n), n -> n == 0 ? 2 : JumpDesk.STATE);
        all("why, left", (x, n) -> n == 0 ? x.leave(0, 0) : x.why(0, n), n -> n == 0 ? 2 : 1);
    }

    private static void flights() {
        all("where", (x, n) -> x.where(0, 0, 64, n % 4), n -> new int[] {397, 0, 9000, 2}[n % 4]);
        all("near", (x, n) -> x.near(0, 0, 1), 3600L * 3600 + 450 * 450);
        all("between", (x, n) -> x.between(n % 3, 0, 1), 3);
        all("order", (x, n) -> x.order(0), 3);
        all("spot", (x, n) -> x.spot(0, n % 2), n -> n % 2 == 0 ? -20397 : 20000 - 397 - 3600);
        all("why", (x, n) -> x.why(0, n), 0);
        all("a pause, how near", (x, n) -> n % 2 == 0 ? x.pause(0, 1, 10 + n % 50) : x.near(0, 0, 1), n -> {
            long pause = 10 + (n - 1) % 50;
            return n % 2 == 0 ? 1 : 160000 * pause * pause + 2500 * pause * pause;
        });
    }

    /** All that is there comes and goes by turns, up to the last call. */
    private static void turns() {
        JumpDesk x = new JumpDesk();
        make(x);
        int calls = MADE;
        for (int n = 0; calls + 7 <= CALLS; n++, calls += 7) {
            Due.due("out " + n, x.out(0, 0), 1);
            Due.due("put " + n, x.put(0, n % 2, 1 + n % 60), 2);
            Due.due("second " + n, x.in(0, 31), 1 + n % 60);
            Due.due("start " + n, x.start(0, 10 * n), 1);
            Due.due("x " + n, x.where(0, 1, 1, 0), 10 * n + 400 * (1 + n % 60) + 200);
            Due.due("spot " + n, x.spot(0, 0), -20397);
            Due.due("field " + n, x.rule(1, 20000), 20000);
        }
        Due.due("calls", calls, 506);
        Due.due("order", x.order(0), 3);
        Due.due("start", x.start(0, -500), 1);
        Due.due("why", x.why(0, 1000), 0);
        Due.due("leave", x.leave(0, 1000), 2);
        Due.due("left", x.in(0, 3), 1);
        Due.due("the last call", x.many(3), 2);
    }
}
