/** The boundary cases of promises 1 to 9, sentence by sentence of the document. */
public final class WindEdges {
    private static final int UNTOLD = Integer.MIN_VALUE;

    public static void main(String[] args) {
        newObject();
        sheet();
        sheetIsNew();
        cell();
        cellRounds();
        gap();
        lose();
        told();
        filled();
        filledAsFloats();
        windsRefused();
        windsAtMost();
        windsAbove();
        windsAsFloats();
        wind();
        blows();
        Due.end();
    }

    private static void newObject() {
        Due.part("promise 1: no winds, no groups, no loads; sheets are missing");
        JumpDesk x = new JumpDesk();
        for (int layer = 0; layer <= 11; layer++) {
            Due.due("along x in layer " + layer, x.blows(layer, 0), 0);
            Due.due("along y in layer " + layer, x.blows(layer, 1), 0);
        }
        for (int r = 0; r <= 2; r++) {
            Due.due("cell of sheet " + r, x.cell(r, 0, 1, 0), JumpDesk.MISSING);
            Due.due("gap of sheet " + r, x.gap(r, 0), JumpDesk.MISSING);
            Due.due("lose sheet " + r, x.lose(r), JumpDesk.MISSING);
            Due.due("told of sheet " + r, x.told(r, 0), UNTOLD);
            Due.due("winds of sheet " + r, x.winds(r, r), JumpDesk.MISSING);
        }
        for (int what = 0; what <= 3; what++) {
            Due.due("how many, " + what, x.many(what), 0);
        }
        Due.due("no group 0", x.of(0, 0), -1);
        Due.due("no load 0", x.in(0, 0), -1);
    }

    private static void sheet() {
        Due.part("promise 2: r isn't 0 to 2");
        Edge.outside("sheet", Scene::make, (x, r) -> x.sheet(r, 3), 0, 2, JumpDesk.NUMBER);
        for (int r = 0; r <= 2; r++) {
            int at = r;
            Edge.done("sheet " + r, Scene::make, x -> x.sheet(at, 3), 1, x -> x.told(at, 2), 0);
        }
        Due.part("promise 2: n is below 0");
        Edge.still("n -1", Scene::make, x -> x.sheet(0, -1), JumpDesk.SIZE);
        Edge.still("n least", Scene::make, x -> x.sheet(1, Integer.MIN_VALUE), JumpDesk.SIZE);
        Edge.still("n -1, missing", Scene::make, x -> x.sheet(2, -1), JumpDesk.SIZE);
        Due.part("promise 2: n is above 20");
        Edge.still("n 21", Scene::make, x -> x.sheet(0, 21), JumpDesk.NUMBER);
        Edge.still("n most", Scene::make, x -> x.sheet(1, Integer.MAX_VALUE), JumpDesk.NUMBER);
        Edge.still("n 21, missing", Scene::make, x -> x.sheet(2, 21), JumpDesk.NUMBER);
        Due.part("promise 2: of several refusals the first one named");
        Edge.still("r 3, n -1", Scene::make, x -> x.sheet(3, -1), JumpDesk.NUMBER);
        Edge.still("r -1, n least", Scene::make, x -> x.sheet(-1, Integer.MIN_VALUE), JumpDesk.NUMBER);
        Due.part("promise 2: with n numbers");
        Edge.done("none: there all the same", Scene::make, x -> x.sheet(2, 0), 1, x -> x.gap(2, 0), JumpDesk.NUMBER);
        Edge.done("one", Scene::make, x -> x.sheet(2, 1), 1, x -> x.told(2, 0), 0);
        Edge.done("not two", Scene::make, x -> x.sheet(2, 1), 1, x -> x.told(2, 1), UNTOLD);
        Edge.done("20", Scene::make, x -> x.sheet(2, 20), 1, x -> x.told(2, 19), 0);
        Edge.done("not 21", Scene::make, x -> x.sheet(2, 20), 1, x -> x.told(2, 20), UNTOLD);
    }

    private static void sheetIsNew() {
        Due.part("promise 2: in place of one that was, all 0");
        Edge.done("none in place of 20", Scene::make, x -> x.sheet(1, 0), 1, x -> x.told(1, 0), UNTOLD);
        JumpDesk x = new JumpDesk();
        x.sheet(0, 20);
        for (int i = 0; i < 20; i++) {
            x.cell(0, i, 9, 0);
        }
        x.gap(0, 1);
        Due.due("shorter", x.sheet(0, 2), 1);
        Due.due("number 0", x.told(0, 0), 0);
        Due.due("number 1", x.told(0, 1), 0);
        x.cell(0, 0, 4, 0);
        Due.due("number 1, no gap any more", x.told(0, 1), 0);
        x.gap(0, 1);
        Due.due("numbers that were above it fill no gap", x.told(0, 1), 4000);
        x.sheet(0, 2);
        x.cell(0, 0, 4, 0);
        Due.due("as long, no gap any more", x.told(0, 1), 0);
        x.gap(0, 1);
        x.lose(0);
        x.sheet(0, 2);
        x.cell(0, 0, 4, 0);
        Due.due("lost, no gap any more", x.told(0, 1), 0);
        x.sheet(0, 1);
        Due.due("longer", x.sheet(0, 20), 1);
        for (int i = 0; i < 20; i++) {
            Due.due("number " + i, x.told(0, i), 0);
        }
        x.cell(0, 0, 4, 0);
        Due.due("as long", x.sheet(0, 20), 1);
        Due.due("number 0", x.told(0, 0), 0);
        x.cell(0, 0, 4, 0);
        x.lose(0);
        Due.due("behind one that was lost", x.sheet(0, 1), 1);
        Due.due("number 0", x.told(0, 0), 0);
    }

    private static void cell() {
        Due.part("promise 3: r isn't 0 to 2");
        Edge.outside("cell of", Scene::make, (x, r) -> x.cell(r, 0, 1, 0), 0, 2, JumpDesk.NUMBER);
        Edge.done("sheet 0", Scene::make, x -> x.cell(0, 1, 6, 0), 1, x -> x.told(0, 1), 6000);
        Edge.done("sheet 1", Scene::make, x -> x.cell(1, 1, 6, 0), 1, x -> x.told(1, 1), 6000);
        Edge.done("sheet 2", WindEdges::oneInEach, x -> x.cell(2, 0, 6, 0), 1, x -> x.told(2, 0), 6000);
        Due.part("promise 3: k not 0 to 20");
        Edge.outside("k", Scene::make, (x, k) -> x.cell(0, 0, 1, k), 0, 20, JumpDesk.NUMBER);
        Edge.done("k 0", Scene::make, x -> x.cell(0, 0, 3, 0), 1, x -> x.told(0, 0), 3000);
        Edge.done("k 1", Scene::make, x -> x.cell(0, 0, 3, 1), 1, x -> x.told(0, 0), 1500);
        Edge.done("k 20", Scene::make, x -> x.cell(0, 0, 3 << 20, 20), 1, x -> x.told(0, 0), 3000);
        Due.part("promise 3: MISSING");
        Edge.still("sheet 2", Scene::make, x -> x.cell(2, 0, 1, 0), JumpDesk.MISSING);
        Edge.still("one that was lost", WindEdges::lost, x -> x.cell(0, 0, 1, 0), JumpDesk.MISSING);
        Due.part("promise 3: it has no number i");
        Edge.outside("of 3", Scene::make, (x, i) -> x.cell(0, i, 1, 0), 0, 2, JumpDesk.NUMBER);
        Edge.outside("of 20", Scene::make, (x, i) -> x.cell(1, i, 1, 0), 0, 19, JumpDesk.NUMBER);
        Edge.still("of none", WindEdges::empty, x -> x.cell(2, 0, 1, 0), JumpDesk.NUMBER);
        Edge.done("the first", Scene::make, x -> x.cell(1, 0, 9, 0), 1, x -> x.told(1, 0), 9000);
        Edge.done("the last of 20", Scene::make, x -> x.cell(1, 19, 9, 0), 1, x -> x.told(1, 19), 9000);
        Edge.done("the last of 3", Scene::make, x -> x.cell(0, 2, 9, 0), 1, x -> x.told(0, 2), 9000);
        Due.part("promise 3: of several refusals the first one named");
        Edge.still("r 3, i 9", Scene::make, x -> x.cell(3, 9, 1, 0), JumpDesk.NUMBER);
        Edge.still("k 21, missing", Scene::make, x -> x.cell(2, 0, 1, 21), JumpDesk.NUMBER);
        Edge.still("k -1, missing", Scene::make, x -> x.cell(2, 0, 1, -1), JumpDesk.NUMBER);
        Edge.still("missing, i -1", Scene::make, x -> x.cell(2, -1, 1, 0), JumpDesk.MISSING);
        Edge.still("missing, i 20", Scene::make, x -> x.cell(2, 20, 1, 20), JumpDesk.MISSING);
    }

    private static void oneInEach(JumpDesk x) {
        for (int r = 0; r <= 2; r++) {
            x.sheet(r, 1);
            x.cell(r, 0, 1 + r, 0);
        }
    }

    private static void lost(JumpDesk x) {
        oneInEach(x);
        x.lose(0);
    }

    private static void empty(JumpDesk x) {
        Scene.make(x);
        x.sheet(2, 0);
    }

    private static void cellRounds() {
        Due.part("promise 3: the nearest float of v");
        int[][] due = {{16777215, 16777215}, {16777216, 16777216}, {16777217, 16777216}, {16777218, 16777218},
            {16777219, 16777220}, {-16777217, -16777216}, {-16777219, -16777220}, {33554434, 33554432},
            {33554438, 33554440}, {2147483, 2147483}};
        for (int[] d : due) {
            JumpDesk x = new JumpDesk();
            x.sheet(0, 1);
            x.cell(0, 0, d[0], 20);
            Due.due(d[0] + " by 2 to the power of 20", x.told(0, 0), (int) (d[1] / 1048576f * 1000f));
            JumpDesk same = new JumpDesk();
            same.sheet(0, 1);
            same.cell(0, 0, d[0], 14);
            Due.due(d[0] + " by 2 to the power of 14", same.told(0, 0), (int) (d[1] / 16384f * 1000f));
        }
        Edge.done("the greatest v", Scene::make, x -> x.cell(0, 0, Integer.MAX_VALUE, 20), 1, x -> x.told(0, 0), 2048000);
        Edge.done("the least v", Scene::make, x -> x.cell(0, 0, Integer.MIN_VALUE, 20), 1, x -> x.told(0, 0), -2048000);
        Edge.done("v -1", Scene::make, x -> x.cell(0, 0, -1, 3), 1, x -> x.told(0, 0), -125);
        Due.part("promise 3: a gap becomes a number");
        Edge.done("number 1", Scene::make, x -> x.cell(0, 1, 0, 0), 1, x -> x.told(0, 1), 0);
    }

    private static void gap() {
        Due.part("promise 4: r isn't 0 to 2");
        Edge.outside("gap of", Scene::make, (x, r) -> x.gap(r, 0), 0, 2, JumpDesk.NUMBER);
        Edge.done("sheet 0", Scene::make, x -> x.gap(0, 0), 1, x -> x.told(0, 0), -6750);
        Edge.done("sheet 2", WindEdges::oneInEach, x -> x.gap(2, 0), 1, x -> x.told(2, 0), 0);
        Due.part("promise 4: MISSING");
        Edge.still("sheet 2", Scene::make, x -> x.gap(2, 0), JumpDesk.MISSING);
        Edge.still("one that was lost", WindEdges::lost, x -> x.gap(0, 0), JumpDesk.MISSING);
        Due.part("promise 4: it has no number i");
        Edge.outside("of 3", Scene::make, (x, i) -> x.gap(0, i), 0, 2, JumpDesk.NUMBER);
        Edge.outside("of 20", Scene::make, (x, i) -> x.gap(1, i), 0, 19, JumpDesk.NUMBER);
        Edge.still("of none", WindEdges::empty, x -> x.gap(2, 0), JumpDesk.NUMBER);
        Edge.done("the first of 20", Scene::make, x -> x.gap(1, 0), 1, x -> x.told(1, 0), 0);
        Edge.done("the last of 20", Scene::make, x -> x.gap(1, 19), 1, x -> x.told(1, 19), 0);
        Edge.still("a gap already", Scene::make, x -> x.gap(0, 1), 1);
        Due.part("promise 4: of several refusals the first one named");
        Edge.still("r 3, i -1", Scene::make, x -> x.gap(3, -1), JumpDesk.NUMBER);
        Edge.still("missing, i -1", Scene::make, x -> x.gap(2, -1), JumpDesk.MISSING);
        Edge.still("missing, i 20", Scene::make, x -> x.gap(2, 20), JumpDesk.MISSING);
    }

    private static void lose() {
        Due.part("promise 5: r isn't 0 to 2");
        Edge.outside("lose", Scene::make, (x, r) -> x.lose(r), 0, 2, JumpDesk.NUMBER);
        Due.part("promise 5: it is MISSING");
        Edge.still("never there", Scene::make, x -> x.lose(2), JumpDesk.MISSING);
        Edge.still("lost already", WindEdges::lost, x -> x.lose(0), JumpDesk.MISSING);
        Due.part("promise 5: it becomes missing");
        for (int r = 0; r <= 2; r++) {
            int at = r;
            Edge.done("sheet " + r, WindEdges::oneInEach, x -> x.lose(at), 1, x -> x.lose(at), JumpDesk.MISSING);
            Edge.done("another", WindEdges::oneInEach, x -> x.lose(at), 1, x -> x.lose((at + 1) % 3), 1);
        }
        Edge.done("one without numbers", WindEdges::empty, x -> x.lose(2), 1, x -> x.gap(2, 0), JumpDesk.MISSING);
    }

    private static void told() {
        Due.part("promise 6: -2^31 if r isn't 0 to 2");
        Edge.outside("told of", Scene::make, (x, r) -> x.told(r, 0), 0, 2, UNTOLD);
        Due.part("promise 6: -2^31 if it is MISSING");
        Edge.still("sheet 2", Scene::make, x -> x.told(2, 0), UNTOLD);
        Edge.still("one that was lost", WindEdges::lost, x -> x.told(0, 0), UNTOLD);
        Due.part("promise 6: -2^31 if it has none such");
        Edge.outside("of 3", Scene::make, (x, i) -> x.told(0, i), 0, 2, UNTOLD);
        Edge.outside("of 20", Scene::make, (x, i) -> x.told(1, i), 0, 19, UNTOLD);
        Edge.still("of none", WindEdges::empty, x -> x.told(2, 0), UNTOLD);
        Due.part("promise 6: the numbers that are there");
        Edge.still("the first", Scene::make, x -> x.told(0, 0), 5000);
        Edge.still("a gap", Scene::make, x -> x.told(0, 1), -875);
        Edge.still("the last of 3", Scene::make, x -> x.told(0, 2), -6750);
        Edge.still("the last of 20", Scene::make, x -> x.told(1, 19), 2500);
        Due.part("promise 6: times 1000 as floats, as the language casts it");
        int[][] due = {{134443, 11, 65646}, {134955, 14, 8237}, {1141506, 16, 17418}, {-134443, 11, -65646},
            {999, 10, 975}, {-999, 10, -975}, {1, 10, 0}, {-1, 10, 0}, {2147483, 0, 2147483008},
            {2147484, 0, Integer.MAX_VALUE}, {-2147484, 0, Integer.MIN_VALUE}, {Integer.MAX_VALUE, 0, Integer.MAX_VALUE}};
        for (int[] d : due) {
            JumpDesk x = new JumpDesk();
            x.sheet(0, 1);
            x.cell(0, 0, d[0], d[1]);
            Due.due(d[0] + " by 2 to the power of " + d[1], x.told(0, 0), d[2]);
        }
    }

    private static int told(int[] row, int gaps, int i) {
        JumpDesk x = new JumpDesk();
        x.sheet(1, row.length);
        for (int at = 0; at < row.length; at++) {
            x.cell(1, at, row[at], 0);
            if ((gaps >> at & 1) == 1) {
                x.gap(1, at);
            }
        }
        return x.told(1, i);
    }

    /** Gaps are told by bits: the lowest is number 0. */
    private static void filled() {
        int[] row = {2, 7, 13, 22, 60};
        Due.part("terms 1, FILLED: the mean of the nearest below and the nearest above");
        Due.due("between its neighbours", told(row, 0b00010, 1), 7500);
        Due.due("the first of three gaps", told(row, 0b01110, 1), 31000);
        Due.due("the second of three gaps", told(row, 0b01110, 2), 31000);
        Due.due("the last of three gaps", told(row, 0b01110, 3), 31000);
        Due.due("two gaps that are no neighbours", told(row, 0b01010, 3), 36500);
        Due.due("no gap beside gaps", told(row, 0b01010, 2), 13000);
        Due.due("below nought", told(new int[] {-3, 5, -4}, 0b010, 1), -3500);
        Due.part("terms 1, FILLED: or the one of these that there is");
        Due.due("the first one", told(row, 0b00001, 0), 7000);
        Due.due("the first two", told(row, 0b00011, 0), 13000);
        Due.due("the first two", told(row, 0b00011, 1), 13000);
        Due.due("the last one", told(row, 0b10000, 4), 22000);
        Due.due("the last two", told(row, 0b11000, 3), 13000);
        Due.due("the last two", told(row, 0b11000, 4), 13000);
        Due.due("all but the first", told(row, 0b11110, 4), 2000);
        Due.due("all but the last", told(row, 0b01111, 0), 60000);
        Due.due("a 0 is a number", told(new int[] {0, 5, 8}, 0b010, 1), 4000);
        Due.due("a 0 is a number", told(new int[] {8, 5, 0}, 0b010, 1), 4000);
        Due.part("terms 1, FILLED: or 0");
        Due.due("all are gaps", told(row, 0b11111, 0), 0);
        Due.due("all are gaps", told(row, 0b11111, 4), 0);
        Due.due("the only one is a gap", told(new int[] {9}, 1, 0), 0);
        int[] longest = new int[20];
        longest[0] = 4;
        longest[19] = 10;
        Due.due("18 gaps of 20", told(longest, 0x7fffe, 1), 7000);
        Due.due("18 gaps of 20", told(longest, 0x7fffe, 18), 7000);
        Due.due("the last of 20", told(longest, 0xffffe, 19), 4000);
        Due.due("the first of 20", told(longest, 0x7ffff, 0), 10000);
    }

    private static void filledAsFloats() {
        Due.part("terms 1, FILLED: as a float, both together, by 2");
        int[][] due = {{776322, 15, 34111, 11862}, {1934494, 16, 25127, 14771}, {800818, 14, 20915, 24449}};
        for (int[] d : due) {
            JumpDesk x = new JumpDesk();
            x.sheet(0, 3);
            x.cell(0, 0, d[0], d[1]);
            x.gap(0, 1);
            x.cell(0, 2, d[2], 20);
            Due.due(d[0] + " and " + d[2], x.told(0, 1), d[3]);
        }
        int[][] winds = {{17203, 10, 203, 84}, {28261, 10, 1431, 138}, {34399, 11, 3787, 84}};
        for (int[] d : winds) {
            JumpDesk x = new JumpDesk();
            x.sheet(0, 3);
            x.cell(0, 0, d[0], d[1]);
            x.gap(0, 1);
            x.cell(0, 2, d[2], 20);
            Due.due("winds", x.winds(0, 0), 1);
            Due.due("the wind of " + d[0] + " and " + d[2], x.blows(1, 0), d[3]);
        }
    }

    private static void windsRefused() {
        Due.part("promise 7: r or q isn't 0 to 2");
        Edge.outside("r", Scene::make, (x, r) -> x.winds(r, 0), 0, 2, JumpDesk.NUMBER);
        Edge.outside("q", Scene::make, (x, q) -> x.winds(0, q), 0, 2, JumpDesk.NUMBER);
        Due.part("promise 7: MISSING, one is");
        Edge.still("r", Scene::make, x -> x.winds(2, 0), JumpDesk.MISSING);
        Edge.still("q", Scene::make, x -> x.winds(0, 2), JumpDesk.MISSING);
        Edge.still("both", Scene::make, x -> x.winds(2, 2), JumpDesk.MISSING);
        Due.part("promise 7: one has no number");
        Edge.still("r", WindEdges::empty, x -> x.winds(2, 0), JumpDesk.NUMBER);
        Edge.still("q", WindEdges::empty, x -> x.winds(0, 2), JumpDesk.NUMBER);
        Edge.still("both", WindEdges::empty, x -> x.winds(2, 2), JumpDesk.NUMBER);
        Due.part("promise 7: of several refusals the first one named");
        Edge.still("r 3, q missing", Scene::make, x -> x.winds(3, 2), JumpDesk.NUMBER);
        Edge.still("r missing, q -1", Scene::make, x -> x.winds(2, -1), JumpDesk.NUMBER);
        Edge.still("r missing, q has no number", WindEdges::emptyAndMissing, x -> x.winds(0, 2), JumpDesk.MISSING);
        Edge.still("r has no number, q missing", WindEdges::emptyAndMissing, x -> x.winds(2, 0), JumpDesk.MISSING);
        Edge.still("r missing, q too much", WindEdges::emptyAndMissing, x -> x.winds(0, 1), JumpDesk.MISSING);
        Edge.still("r too much, q missing", WindEdges::emptyAndMissing, x -> x.winds(1, 0), JumpDesk.MISSING);
    }

    /** Sheet 0 missing, sheet 1 too much, sheet 2 without numbers. */
    private static void emptyAndMissing(JumpDesk x) {
        empty(x);
        x.lose(0);
        x.cell(1, 4, 31, 0);
    }

    /** Winds from a sheet of 12 numbers and one beside it; the wind that was is to stay if they are refused. */
    private static Edge.Made sheets(int length, int at, int v, int k) {
        return x -> {
            Scene.make(x);
            x.sheet(0, length);
            x.cell(0, at, v, k);
            x.sheet(1, 1);
            x.cell(1, 0, 1, 0);
        };
    }

    private static void windsAtMost() {
        Due.part("promise 7: a whole part of a layer isn't -300 to 300");
        for (int layer = 0; layer < 12; layer++) {
            int at = layer;
            Edge.Made most = sheets(12, layer, 30, 0);
            Edge.done("300 along x in " + at, most, x -> x.winds(0, 1), 1, x -> x.blows(at, 0), 300);
            Edge.done("300 along y in " + at, most, x -> x.winds(1, 0), 1, x -> x.blows(at, 1), 300);
            Edge.Made least = sheets(12, layer, -30, 0);
            Edge.done("-300 along x in " + at, least, x -> x.winds(0, 1), 1, x -> x.blows(at, 0), -300);
            Edge.done("-300 along y in " + at, least, x -> x.winds(1, 0), 1, x -> x.blows(at, 1), -300);
            Edge.still("301 along x in " + at, sheets(12, layer, 3945267, 17), x -> x.winds(0, 1), JumpDesk.NUMBER);
            Edge.still("301 along y in " + at, sheets(12, layer, 3945267, 17), x -> x.winds(1, 0), JumpDesk.NUMBER);
            Edge.still("-301 along x in " + at, sheets(12, layer, -3945267, 17), x -> x.winds(0, 1), JumpDesk.NUMBER);
            Edge.still("-301 along y in " + at, sheets(12, layer, -3945267, 17), x -> x.winds(1, 0), JumpDesk.NUMBER);
        }
        Edge.done("300.999..", sheets(1, 0, 3945266, 17), x -> x.winds(0, 0), 1, x -> x.blows(0, 0), 300);
        Edge.done("-300.999..", sheets(1, 0, -3945266, 17), x -> x.winds(0, 0), 1, x -> x.blows(0, 1), -300);
        Edge.still("far too much", sheets(3, 1, Integer.MAX_VALUE, 0), x -> x.winds(0, 1), JumpDesk.NUMBER);
        Edge.still("far too little", sheets(3, 1, Integer.MIN_VALUE, 0), x -> x.winds(0, 1), JumpDesk.NUMBER);
        Edge.done("not of a layer", sheets(13, 12, 31, 0), x -> x.winds(0, 1), 1, x -> x.blows(11, 0), 0);
        Edge.done("not of a layer", sheets(20, 19, -31, 0), x -> x.winds(1, 0), 1, x -> x.blows(11, 1), 0);
        windsOfGaps();
    }

    private static Edge.Made gapAt(int at, Edge.Made made) {
        return x -> {
            made.on(x);
            x.gap(0, at);
        };
    }

    private static void windsOfGaps() {
        Due.part("promise 7: of the filled numbers, a whole part of a layer isn't -300 to 300");
        for (int layer = 0; layer < 12; layer++) {
            int at = layer;
            Edge.Made hidden = gapAt(layer, sheets(12, layer, 31, 0));
            Edge.done("301 in a gap, " + at, hidden, x -> x.winds(0, 1), 1, x -> x.blows(at, 0), 0);
        }
        Edge.done("60 above the layers", gapAt(11, sheets(13, 12, 60, 0)), x -> x.winds(0, 1), 1, x -> x.blows(11, 0), 300);
        Edge.still("61 above the layers", gapAt(11, sheets(13, 12, 61, 0)), x -> x.winds(0, 1), JumpDesk.NUMBER);
        Edge.done("-60 above them", gapAt(11, sheets(13, 12, -60, 0)), x -> x.winds(1, 0), 1, x -> x.blows(11, 1), -300);
        Edge.still("-61 above them", gapAt(11, sheets(13, 12, -61, 0)), x -> x.winds(1, 0), JumpDesk.NUMBER);
    }

    private static void windsAbove() {
        Due.part("promise 7: above a sheet's last number that holds");
        for (int length = 1; length <= 13; length++) {
            JumpDesk x = new JumpDesk();
            x.sheet(0, length);
            x.sheet(1, 20);
            for (int i = 0; i < 20; i++) {
                x.cell(0, i, 1 + i, 0);
                x.cell(1, i, -2 - i, 0);
            }
            Due.due("winds", x.winds(0, 1), 1);
            for (int layer = 0; layer < 12; layer++) {
                Due.due("x " + layer + " of " + length, x.blows(layer, 0), 10 * Math.min(layer + 1, length));
                Due.due("y " + layer, x.blows(layer, 1), -10 * (layer + 2));
            }
        }
        JumpDesk x = new JumpDesk();
        x.sheet(0, 3);
        x.cell(0, 0, 4, 0);
        x.cell(0, 1, 6, 0);
        x.gap(0, 2);
        x.sheet(2, 2);
        x.gap(2, 0);
        x.gap(2, 1);
        Due.due("the last one is a gap", x.winds(0, 2), 1);
        Due.due("x 2", x.blows(2, 0), 60);
        Due.due("x 11", x.blows(11, 0), 60);
        Due.due("y, all gaps", x.blows(11, 1), 0);
        Due.due("the same sheet for both", x.winds(0, 0), 1);
        Due.due("y 0", x.blows(0, 1), 40);
        Due.due("y 11", x.blows(11, 1), 60);
    }

    private static void windsAsFloats() {
        Due.part("promise 7: the whole part of ten times, as floats, cut towards 0");
        int[][] due = {{3420979, 17, 261}, {3486515, 18, 133}, {7680819, 18, 293}, {8860467, 19, 169},
            {-3420979, 17, -261}, {1, 4, 0}, {-1, 4, 0}, {-7, 2, -17}, {7, 2, 17}, {-1, 3, -1}};
        for (int[] d : due) {
            JumpDesk x = new JumpDesk();
            x.sheet(0, 1);
            x.cell(0, 0, d[0], d[1]);
            Due.due("winds", x.winds(0, 0), 1);
            Due.due(d[0] + " by 2 to the power of " + d[1] + " along x", x.blows(3, 0), d[2]);
            Due.due(d[0] + " by 2 to the power of " + d[1] + " along y", x.blows(3, 1), d[2]);
        }
    }

    private static void wind() {
        Due.part("promise 8: there is no such layer");
        Edge.outside("layer", Scene::make, (x, layer) -> x.wind(layer, 1, 2), 0, 11, JumpDesk.NUMBER);
        for (int layer = 0; layer <= 11; layer++) {
            int at = layer;
            Edge.done("layer " + layer, Scene::make, x -> x.wind(at, 21, -22), 1, x -> x.blows(at, 0), 21);
            Edge.done("layer " + layer, Scene::make, x -> x.wind(at, 21, -22), 1, x -> x.blows(at, 1), -22);
        }
        Due.part("promise 8: x isn't -300 to 300");
        Edge.outside("x", Scene::make, (x, v) -> x.wind(4, v, 2), -300, 300, JumpDesk.NUMBER);
        Edge.inside("x", Scene::make, (x, v) -> x.wind(4, v, 2), -300, 300, 1, x -> x.blows(4, 0));
        Due.part("promise 8: y isn't -300 to 300");
        Edge.outside("y", Scene::make, (x, v) -> x.wind(4, 2, v), -300, 300, JumpDesk.NUMBER);
        Edge.inside("y", Scene::make, (x, v) -> x.wind(4, 2, v), -300, 300, 1, x -> x.blows(4, 1));
    }

    private static void blows() {
        Due.part("promise 9: -1000, there is no such layer");
        Edge.outside("layer, x", Scene::make, (x, layer) -> x.blows(layer, 0), 0, 11, -1000);
        Edge.outside("layer, y", Scene::make, (x, layer) -> x.blows(layer, 1), 0, 11, -1000);
        Edge.still("layer 0", Scene::make, x -> x.blows(0, 0), 11);
        Edge.still("layer 11", Scene::make, x -> x.blows(11, 1), 14);
        Due.part("promise 9: -1000, another what");
        Edge.outside("what", Scene::make, (x, what) -> x.blows(5, what), 0, 1, -1000);
        Edge.still("what 0", Scene::make, x -> x.blows(5, 0), 15);
        Edge.still("what 1", Scene::make, x -> x.blows(5, 1), 16);
    }
}
