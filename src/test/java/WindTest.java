/** Promises 1 to 9: a new object, sheets, winds. */
public final class WindTest {
    private static final int UNTOLD = Integer.MIN_VALUE;

    public static void main(String[] args) {
        newObject();
        sheet();
        cell();
        gap();
        lose();
        told();
        winds();
        windsThatMayNotBe();
        wind();
        blows();
        Due.end();
    }

    private static void newObject() {
        Due.part("promise 1");
        JumpDesk x = new JumpDesk();
        for (int layer = 0; layer < 12; layer++) {
            Due.due("blows x", x.blows(layer, 0), 0);
            Due.due("blows y", x.blows(layer, 1), 0);
        }
        for (int what = 0; what <= 3; what++) {
            Due.due("many " + what, x.many(what), 0);
        }
        for (int r = 0; r < 3; r++) {
            Due.due("lose " + r, x.lose(r), JumpDesk.MISSING);
        }
        Due.due("of", x.of(0, 0), -1);
        Due.due("in", x.in(0, 0), -1);
        JumpDesk other = new JumpDesk();
        x.wind(3, 1, 2);
        x.rule(0, 7);
        Due.due("winds of another", other.blows(3, 0), 0);
        Due.due("rules of another", other.rule(0, 1), 1000);
    }

    private static void sheet() {
        Due.part("promise 2");
        JumpDesk x = new JumpDesk();
        Due.due("r -1", x.sheet(-1, 3), JumpDesk.NUMBER);
        Due.due("r 3", x.sheet(3, 3), JumpDesk.NUMBER);
        Due.due("r 3 ahead of n -1", x.sheet(3, -1), JumpDesk.NUMBER);
        Due.due("n -1", x.sheet(0, -1), JumpDesk.SIZE);
        Due.due("n least", x.sheet(0, Integer.MIN_VALUE), JumpDesk.SIZE);
        Due.due("n 21", x.sheet(0, 21), JumpDesk.NUMBER);
        Due.due("refused: still missing", x.gap(0, 0), JumpDesk.MISSING);
        Due.due("n 0", x.sheet(0, 0), 1);
        Due.due("n 0 has none", x.told(0, 0), UNTOLD);
        Due.due("n 20", x.sheet(2, 20), 1);
        Due.due("last is 0", x.told(2, 19), 0);
        Due.due("no number 20", x.told(2, 20), UNTOLD);
        x.cell(2, 0, 9, 0);
        x.gap(2, 1);
        Due.due("refused", x.sheet(2, 21), JumpDesk.NUMBER);
        Due.due("refused", x.sheet(2, -1), JumpDesk.SIZE);
        Due.due("as it was", x.told(2, 0), 9000);
        Due.due("in place of one", x.sheet(2, 2), 1);
        Due.due("all 0", x.told(2, 0), 0);
        Due.due("no gap left", x.cell(2, 0, 5, 0), 1);
        Due.due("no gap left", x.told(2, 1), 0);
        Due.due("shorter now", x.told(2, 2), UNTOLD);
    }

    private static void cell() {
        Due.part("promise 3");
        JumpDesk x = new JumpDesk();
        Due.due("r 3 and missing", x.cell(3, 0, 1, 0), JumpDesk.NUMBER);
        Due.due("k 21 ahead of missing", x.cell(0, 0, 1, 21), JumpDesk.NUMBER);
        Due.due("k -1 ahead of missing", x.cell(0, 0, 1, -1), JumpDesk.NUMBER);
        Due.due("missing ahead of no number", x.cell(0, 9, 1, 0), JumpDesk.MISSING);
        x.sheet(0, 3);
        Due.due("r -1", x.cell(-1, 0, 1, 0), JumpDesk.NUMBER);
        Due.due("i 3", x.cell(0, 3, 1, 0), JumpDesk.NUMBER);
        Due.due("i -1", x.cell(0, -1, 1, 0), JumpDesk.NUMBER);
        Due.due("k 20", x.cell(0, 0, 1 << 20, 20), 1);
        Due.due("1", x.told(0, 0), 1000);
        Due.due("k 1", x.cell(0, 1, -7, 1), 1);
        Due.due("-3.5", x.told(0, 1), -3500);
        Due.due("16777217 is no float: the even one beside it", x.cell(0, 2, 16777217, 3), 1);
        Due.due("16777216 by 8", x.told(0, 2), 2097152000);
        x.cell(0, 2, 16777219, 3);
        Due.due("16777220 by 8, times 1000 as floats", x.told(0, 2), 2097152512);
        x.gap(0, 0);
        x.cell(0, 0, 2, 0);
        Due.due("no gap any more", x.told(0, 0), 2000);
        x.cell(0, 0, 8, 21);
        Due.due("refused: as it was", x.told(0, 0), 2000);
    }

    private static void gap() {
        Due.part("promise 4");
        JumpDesk x = new JumpDesk();
        Due.due("r -1", x.gap(-1, 0), JumpDesk.NUMBER);
        Due.due("r 3", x.gap(3, 0), JumpDesk.NUMBER);
        Due.due("missing ahead of no number", x.gap(1, -1), JumpDesk.MISSING);
        x.sheet(1, 2);
        x.cell(1, 0, 4, 0);
        x.cell(1, 1, 6, 0);
        Due.due("i -1", x.gap(1, -1), JumpDesk.NUMBER);
        Due.due("i 2", x.gap(1, 2), JumpDesk.NUMBER);
        Due.due("no gap yet", x.told(1, 0), 4000);
        Due.due("gap", x.gap(1, 0), 1);
        Due.due("filled", x.told(1, 0), 6000);
        Due.due("a gap again", x.gap(1, 0), 1);
    }

    private static void lose() {
        Due.part("promise 5");
        JumpDesk x = new JumpDesk();
        Due.due("r -1", x.lose(-1), JumpDesk.NUMBER);
        Due.due("r 3", x.lose(3), JumpDesk.NUMBER);
        Due.due("missing", x.lose(0), JumpDesk.MISSING);
        x.sheet(0, 1);
        x.sheet(1, 1);
        Due.due("lost", x.lose(0), 1);
        Due.due("missing now", x.lose(0), JumpDesk.MISSING);
        Due.due("told of none", x.told(0, 0), UNTOLD);
        Due.due("the other is there", x.told(1, 0), 0);
        x.sheet(0, 1);
        Due.due("there again", x.lose(0), 1);
    }

    private static void told() {
        Due.part("promise 6");
        JumpDesk x = new JumpDesk();
        Due.due("r -1", x.told(-1, 0), UNTOLD);
        Due.due("r 3", x.told(3, 0), UNTOLD);
        Due.due("missing", x.told(0, 0), UNTOLD);
        x.sheet(0, 6);
        x.cell(0, 1, 3, 0);
        x.cell(0, 4, 8, 0);
        for (int i : new int[] {0, 2, 3, 5}) {
            x.gap(0, i);
        }
        Due.due("i -1", x.told(0, -1), UNTOLD);
        Due.due("i 6", x.told(0, 6), UNTOLD);
        Due.due("the one above", x.told(0, 0), 3000);
        Due.due("no gap", x.told(0, 1), 3000);
        Due.due("mean", x.told(0, 2), 5500);
        Due.due("mean, of the numbers alone", x.told(0, 3), 5500);
        Due.due("the one below", x.told(0, 5), 8000);
        x.gap(0, 1);
        Due.due("only one is left", x.told(0, 0), 8000);
        x.gap(0, 4);
        Due.due("none is left", x.told(0, 3), 0);
        x.cell(0, 0, -1, 11);
        Due.due("-0.488.. towards 0", x.told(0, 0), 0);
        x.cell(0, 0, -3, 11);
        Due.due("-1.46.. towards 0", x.told(0, 0), -1);
        x.cell(0, 0, Integer.MAX_VALUE, 0);
        Due.due("too great", x.told(0, 0), Integer.MAX_VALUE);
        x.cell(0, 0, Integer.MIN_VALUE, 0);
        Due.due("too small", x.told(0, 0), Integer.MIN_VALUE);
        x.cell(0, 0, 16777216, 0);
        x.gap(0, 1);
        x.cell(0, 2, 3, 0);
        Due.due("both together as a float", x.told(0, 1), (int) ((16777216f + 3f) / 2f * 1000f));
        x.cell(0, 0, 16777216, 20);
        x.cell(0, 2, 1, 20);
        Due.due("both together as a float, by 2", x.told(0, 1), 8000);
        x.cell(0, 0, 1000001, 20);
        Due.due("times 1000 as floats", x.told(0, 0), (int) (1000001f / 1048576f * 1000f));
    }

    private static void winds() {
        Due.part("promise 7");
        JumpDesk x = new JumpDesk();
        x.sheet(0, 3);
        x.cell(0, 0, 5, 0);
        x.gap(0, 1);
        x.cell(0, 2, -27, 2);
        x.sheet(1, 14);
        x.cell(1, 11, 123, 3);
        x.cell(1, 12, 999, 0);
        Due.due("winds", x.winds(0, 1), 1);
        Due.due("x 0", x.blows(0, 0), 50);
        Due.due("x 1 of 5 and -6.75, cut towards 0", x.blows(1, 0), -8);
        Due.due("x 2", x.blows(2, 0), -67);
        Due.due("x 3 holds", x.blows(3, 0), -67);
        Due.due("x 11 holds", x.blows(11, 0), -67);
        Due.due("y 0", x.blows(0, 1), 0);
        Due.due("y 10", x.blows(10, 1), 0);
        Due.due("y 11", x.blows(11, 1), 153);
        x.gap(0, 2);
        Due.due("the last one is a gap", x.winds(1, 0), 1);
        Due.due("x 11", x.blows(11, 0), 153);
        Due.due("y 11", x.blows(11, 1), 50);
        x.sheet(2, 1);
        x.cell(2, 0, 30, 0);
        Due.due("300", x.winds(2, 2), 1);
        Due.due("y 7", x.blows(7, 1), 300);
        x.cell(2, 0, -7704, 8);
        Due.due("-300.9..", x.winds(2, 2), 1);
        Due.due("x 7", x.blows(7, 0), -300);
        x.lose(2);
        Due.due("a lost sheet's winds hold", x.blows(7, 0), -300);
    }

    private static void windsThatMayNotBe() {
        Due.part("promise 7, refused");
        JumpDesk x = new JumpDesk();
        x.wind(0, 11, 12);
        Due.due("r 3", x.winds(3, 0), JumpDesk.NUMBER);
        Due.due("q 3", x.winds(0, 3), JumpDesk.NUMBER);
        Due.due("r -1 ahead of missing", x.winds(-1, 0), JumpDesk.NUMBER);
        Due.due("both missing", x.winds(0, 1), JumpDesk.MISSING);
        x.sheet(0, 0);
        Due.due("q missing, ahead of no number", x.winds(0, 1), JumpDesk.MISSING);
        Due.due("r missing, ahead of no number", x.winds(1, 0), JumpDesk.MISSING);
        x.sheet(1, 12);
        x.cell(1, 0, 9, 0);
        Due.due("r has no number", x.winds(0, 1), JumpDesk.NUMBER);
        Due.due("q has no number", x.winds(1, 0), JumpDesk.NUMBER);
        x.sheet(0, 12);
        x.cell(0, 11, 301, 3);
        x.cell(0, 3, 31, 0);
        Due.due("310 in layer 3 along x", x.winds(0, 1), JumpDesk.NUMBER);
        Due.due("310 in layer 3 along y", x.winds(1, 0), JumpDesk.NUMBER);
        x.cell(0, 3, -31, 0);
        Due.due("-310", x.winds(0, 1), JumpDesk.NUMBER);
        x.cell(0, 3, 0, 0);
        x.cell(0, 0, 31, 0);
        Due.due("310 in layer 0", x.winds(0, 1), JumpDesk.NUMBER);
        x.cell(0, 0, 0, 0);
        x.cell(0, 11, 31, 0);
        Due.due("310 in layer 11", x.winds(0, 1), JumpDesk.NUMBER);
        x.cell(0, 11, Integer.MAX_VALUE, 0);
        Due.due("far too much", x.winds(1, 0), JumpDesk.NUMBER);
        Due.due("as it was", x.blows(0, 0), 11);
        Due.due("as it was", x.blows(0, 1), 12);
        x.sheet(0, 13);
        x.cell(0, 12, 31, 0);
        Due.due("number 12 is no layer's", x.winds(0, 1), 1);
        Due.due("y 0", x.blows(0, 1), 90);
    }

    private static void wind() {
        Due.part("promise 8");
        JumpDesk x = new JumpDesk();
        Due.due("layer 0", x.wind(0, -300, 300), 1);
        Due.due("layer 11", x.wind(11, 300, -300), 1);
        Due.due("layer -1", x.wind(-1, 0, 0), JumpDesk.NUMBER);
        Due.due("layer 12", x.wind(12, 0, 0), JumpDesk.NUMBER);
        Due.due("x 301", x.wind(0, 301, 0), JumpDesk.NUMBER);
        Due.due("x -301", x.wind(0, -301, 0), JumpDesk.NUMBER);
        Due.due("y 301", x.wind(0, 0, 301), JumpDesk.NUMBER);
        Due.due("y -301", x.wind(0, 0, -301), JumpDesk.NUMBER);
        Due.due("x 0", x.blows(0, 0), -300);
        Due.due("y 0", x.blows(0, 1), 300);
        Due.due("x 11", x.blows(11, 0), 300);
        Due.due("y 11", x.blows(11, 1), -300);
        Due.due("x 1", x.blows(1, 0), 0);
    }

    private static void blows() {
        Due.part("promise 9");
        JumpDesk x = new JumpDesk();
        x.wind(5, 17, -18);
        Due.due("x", x.blows(5, 0), 17);
        Due.due("y", x.blows(5, 1), -18);
        Due.due("what 2", x.blows(5, 2), -1000);
        Due.due("what -1", x.blows(5, -1), -1000);
        Due.due("layer -1", x.blows(-1, 0), -1000);
        Due.due("layer 12", x.blows(12, 1), -1000);
        Due.due("layer least", x.blows(Integer.MIN_VALUE, 1), -1000);
    }
}
