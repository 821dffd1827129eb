/** The boundary cases of layers, FALL and promise 22, sentence by sentence of the document. */
public final class FallEdges {
    private static final int NONE_TOLD = -1000000;
    private static final int FALLS = 1;
    private static final int OPEN = 2;
    private static final int DOWN = 3;

    public static void main(String[] args) {
        layersOfOpenOnes();
        layersOfFallingOnes();
        windAtMost();
        thrown();
        tracked();
        fallOfKinds();
        opens();
        highOpens();
        comesDown();
        leaves();
        refused();
        whenLeft();
        Due.end();
    }

    /** One group alone in load 0 of plane 0, which has that speed and height. */
    private static JumpDesk alone(int kind, int opens, int direction, int speed, int height) {
        JumpDesk x = new JumpDesk();
        x.plane(0, 10, 1000, speed, height);
        x.group(kind, opens, 0, direction);
        x.load(0);
        x.put(0, 0, 60);
        return x;
    }

    private static int at(JumpDesk x, int t, int what) {
        return x.where(0, 0, t, what);
    }

    private static int step(JumpDesk x, int t, int what) {
        return at(x, t + 1, what) - at(x, t, what);
    }

    private static void blowByLayer(JumpDesk x) {
        for (int layer = 0; layer <= 11; layer++) {
            x.wind(layer, 1 + layer, -2 - 3 * layer);
        }
    }

    private static void layersOfOpenOnes() {
        Due.part("terms 1: layer of a height, the whole part of it by 4000");
        JumpDesk x = alone(3, 6000, 0, 200, 47000);
        blowByLayer(x);
        Due.due("open from 46400 on", at(x, 3, 2), 46400);
        for (int layer = 11; layer >= 1; layer--) {
            int t = 3 + (46400 - 4000 * layer) / 50;
            Due.due("height", at(x, t, 2), 4000 * layer);
            Due.due("x at the bottom of " + layer, step(x, t, 0), 1 + layer);
            Due.due("y at the bottom of " + layer, step(x, t, 1), -2 - 3 * layer);
            Due.due("x at the top of " + (layer - 1), step(x, t + 1, 0), layer);
            Due.due("y at the top of " + (layer - 1), step(x, t + 1, 1), 1 - 3 * layer);
        }
        Due.due("x as it comes down", step(x, 930, 0), 1);
        Due.due("y as it comes down", step(x, 930, 1), -2);
    }

    private static void layersOfFallingOnes() {
        Due.part("terms 2: layer being that of its height ahead");
        for (int layer = 4; layer <= 11; layer++) {
            JumpDesk bottom = alone(0, 6000, 0, 200, 4000 * layer);
            blowByLayer(bottom);
            Due.due("leaves at the bottom of " + layer, at(bottom, 1, 0), 100 + 1 + layer);
            Due.due("leaves at the bottom of " + layer, at(bottom, 1, 1), -2 - 3 * layer);
            JumpDesk top = alone(0, 6000, 0, 200, 4000 * layer - 1);
            blowByLayer(top);
            Due.due("leaves at the top of " + (layer - 1), at(top, 1, 0), 100 + layer);
            Due.due("leaves at the top of " + (layer - 1), at(top, 1, 1), 1 - 3 * layer);
        }
        JumpDesk opening = alone(0, 8000, 0, 200, 23000);
        blowByLayer(opening);
        Due.due("open at 8000", at(opening, 32, 2), 8000);
        Due.due("open at 8000", at(opening, 32, 3), OPEN);
        Due.due("it fell ahead of that", at(opening, 31, 3), FALLS);
        Due.due("its first second open, in layer 2", step(opening, 32, 0), 3);
        Due.due("its second second open, in layer 1", step(opening, 33, 0), 2);
    }

    private static void windAtMost() {
        Due.part("terms 1: winds are -300 to 300");
        JumpDesk x = alone(3, 6000, 0, 600, 47000);
        for (int layer = 0; layer <= 11; layer++) {
            x.wind(layer, 300, -300);
        }
        Due.due("the farthest x", at(x, 1000, 0), 931 * 300 + 300 + 150 + 75);
        Due.due("the farthest y", at(x, 1000, 1), -931 * 300);
    }

    private static void thrown() {
        Due.part("terms 2: x by the whole part of speed by 2 to the power of s + 1, 0 when s is above 20");
        for (int speed : new int[] {200, 201, 399, 400, 511, 512, 599, 600}) {
            JumpDesk x = alone(0, 6000, 0, speed, 47000);
            int rest = speed;
            for (int s = 0; s <= 40; s++) {
                rest /= 2;
                Due.due("speed " + speed + " s " + s, step(x, s, 0), rest);
                Due.due("y, s " + s, step(x, s, 1), 0);
            }
            for (int s : new int[] {62, 63, 64, 65, 80}) {
                Due.due("speed " + speed + " s " + s, step(x, s, 0), 0);
            }
        }
        JumpDesk high = alone(3, 6000, 0, 600, 47000);
        Due.due("its last second falling", step(high, 2, 0), 75);
        Due.due("open ones are not thrown", step(high, 3, 0), 0);
    }

    private static void tracked() {
        Due.part("terms 2: a track, if s is 5 or more, goes on by 80");
        int[][] due = {{80, 0}, {0, 80}, {-80, 0}, {0, -80}};
        for (int direction = 0; direction <= 3; direction++) {
            JumpDesk x = alone(2, 9300, direction, 200, 40000);
            for (int s = 0; s <= 4; s++) {
                Due.due("x, s " + s, step(x, s, 0), 200 >> s + 1);
                Due.due("y, s " + s, step(x, s, 1), 0);
            }
            for (int s = 5; s < 70; s++) {
                Due.due("x, s " + s, step(x, s, 0), (s < 31 ? 200 >> s + 1 : 0) + due[direction][0]);
                Due.due("y, s " + s, step(x, s, 1), due[direction][1]);
            }
            Due.due("falls", at(x, 69, 3), FALLS);
            Due.due("open", at(x, 70, 3), OPEN);
            for (int s : new int[] {70, 71, 255, 256, 300}) {
                Due.due("open, x, s " + s, step(x, s, 0), 0);
                Due.due("open, y, s " + s, step(x, s, 1), 0);
            }
        }
        Due.part("terms 2: direction, for a track");
        for (int kind : new int[] {0, 1, 3}) {
            for (int direction = 0; direction <= 3; direction++) {
                JumpDesk x = alone(kind, 6000, direction, 200, 40000);
                Due.due("x of kind " + kind, step(x, 10, 0), 0);
                Due.due("y of kind " + kind, step(x, 10, 1), 0);
            }
        }
    }

    private static void fallOfKinds() {
        Due.part("terms 2: 10 times the lesser of 10 (s + 1) and 50 (flat, high), 60 (fast), 45 (track)");
        int[][] due = {{100, 200, 300, 400, 500, 500, 500, 500}, {100, 200, 300, 400, 500, 600, 600, 600},
            {100, 200, 300, 400, 450, 450, 450, 450}, {100, 200, 300, 50, 50, 50, 50, 50}};
        for (int kind = 0; kind <= 3; kind++) {
            JumpDesk x = alone(kind, 6000, 0, 400, 40000);
            for (int s = 0; s < 8; s++) {
                Due.due("kind " + kind + " s " + s, step(x, s, 2), -due[kind][s]);
            }
        }
    }

    /** The group is at that height at t, falling till then: with the same opens it is open, with one less it falls on. */
    private static void opensAt(int kind, int height, int t, int there, int fall) {
        JumpDesk x = alone(kind, there, 0, 400, height);
        Due.due("kind " + kind + ": falls ahead", at(x, t - 1, 3), FALLS);
        Due.due("kind " + kind + ": height", at(x, t, 2), there);
        Due.due("kind " + kind + ": not above opens, open", at(x, t, 3), OPEN);
        Due.due("kind " + kind + ": open", step(x, t, 2), -50);
        JumpDesk above = alone(kind, there - 1, 0, 400, height);
        Due.due("kind " + kind + ": one above opens, falls", at(above, t, 3), FALLS);
        Due.due("kind " + kind + ": falls on", step(above, t, 2), -fall);
        Due.due("kind " + kind + ": then open", at(above, t + 1, 3), OPEN);
    }

    private static void opens() {
        Due.part("terms 2: if it isn't above opens then, it is open from then on");
        opensAt(0, 40000, 64, 9000, 500);
        opensAt(1, 40000, 54, 9100, 600);
        opensAt(2, 40000, 70, 9300, 450);
        for (int kind = 0; kind <= 3; kind++) {
            opensAt(kind, 15100, 1, 15000, 200);
            opensAt(kind, 15200, 2, 14900, 300);
        }
        JumpDesk soon = alone(0, 15000, 0, 400, 15000);
        Due.due("falls as it leaves, even at opens", at(soon, 0, 3), FALLS);
        Due.due("open behind its first second", at(soon, 1, 3), OPEN);
        Due.due("it fell by 100", at(soon, 1, 2), 14900);
        Due.due("it was thrown", at(soon, 1, 0), 200);
        Due.due("and no more", at(soon, 2, 0), 200);
    }

    private static void highOpens() {
        Due.part("terms 2: or a high one and s is 2 or more");
        JumpDesk x = alone(3, 6000, 0, 400, 40000);
        Due.due("behind s 1", at(x, 2, 3), FALLS);
        Due.due("behind s 2", at(x, 3, 3), OPEN);
        Due.due("height behind s 2", at(x, 3, 2), 39400);
        for (int kind = 0; kind <= 2; kind++) {
            JumpDesk other = alone(kind, 6000, 0, 400, 40000);
            Due.due("kind " + kind + " behind s 2", at(other, 3, 3), FALLS);
            Due.due("kind " + kind + " behind s 9", at(other, 10, 3), FALLS);
        }
    }

    private static void comesDown() {
        Due.part("terms 2: the height falls by 50; if it would not be above 0 it is 0 then, and the group is down");
        for (int above = 0; above <= 50; above++) {
            JumpDesk x = alone(3, 6000, 0, 400, 15600 + above);
            x.wind(0, 7, -9);
            int last = 3 + (above == 0 ? 299 : 300);
            int height = above == 0 || above == 50 ? 50 : above;
            Due.due("height ahead, " + above, at(x, last, 2), height);
            Due.due("open ahead, " + above, at(x, last, 3), OPEN);
            Due.due("height 0, " + above, at(x, last + 1, 2), 0);
            Due.due("down, " + above, at(x, last + 1, 3), DOWN);
            Due.due("by the wind in that second, x", step(x, last, 0), 7);
            Due.due("by the wind in that second, y", step(x, last, 1), -9);
        }
        Due.part("terms 2: it stays there");
        JumpDesk x = alone(0, 6000, 0, 400, 15010);
        x.wind(0, 10, -5);
        Due.due("down at 132", at(x, 132, 3), DOWN);
        for (int t : new int[] {132, 133, 500, 999, 1000}) {
            Due.due("x at " + t, at(x, t, 0), 397 + 80 * 10);
            Due.due("y at " + t, at(x, t, 1), -80 * 5);
            Due.due("height at " + t, at(x, t, 2), 0);
            Due.due("down at " + t, at(x, t, 3), DOWN);
        }
        JumpDesk longest = alone(3, 6000, 0, 400, 47000);
        Due.due("the longest way, ahead", at(longest, 930, 3), OPEN);
        Due.due("the longest way", at(longest, 931, 3), DOWN);
    }

    private static void leaves() {
        Due.part("terms 3: leaves at x start and speed times that, y 0");
        for (int start : new int[] {-50000, 0, 50000}) {
            JumpDesk x = alone(0, 9000, 0, 600, 30000);
            x.start(0, start);
            Due.due("the first one, its pause counts nothing", x.where(0, 0, 0, 0), start);
            int second = 0;
            for (int i = 1; i < 6; i++) {
                x.group(1, 9000, 0, 0);
                x.put(0, i, i == 1 ? 1 : 60);
                second += i == 1 ? 1 : 60;
                Due.due("x of " + i, x.where(0, i, 0, 0), start + 600 * second);
                Due.due("y of " + i, x.where(0, i, 0, 1), 0);
                Due.due("height of " + i, x.where(0, i, 0, 2), 30000);
                Due.due("it falls", x.where(0, i, 0, 3), FALLS);
            }
        }
    }

    private static void refused() {
        Due.part("promise 22: there is no such load");
        Edge.outside("load", Scene::make, (x, l) -> x.where(l, 0, 0, 0), 0, 2, NONE_TOLD);
        Due.part("promise 22: no such group in it");
        Edge.outside("group", Scene::make, (x, i) -> x.where(0, i, 0, 0), 0, 1, NONE_TOLD);
        Edge.outside("group, left", Scene::make, (x, i) -> x.where(Scene.LEFT_LOAD, i, 0, 0), 0, 0, NONE_TOLD);
        Edge.still("of none", Scene::make, x -> x.where(Scene.EMPTY_LOAD, 0, 0, 0), NONE_TOLD);
        Due.part("promise 22: t isn't 0 to 1000");
        for (int what = 0; what <= 3; what++) {
            int at = what;
            Edge.outside("t, what " + what, Scene::make, (x, t) -> x.where(0, 0, t, at), 0, 1000, NONE_TOLD);
        }
        int[] leaving = {-4000, 0, 40000, FALLS};
        // Group 0 falls through layer 5, with its wind, for 8 seconds, and is in layer 0 for 79.
        int[] last = {-4000 + 397 + 8 * 15 + 79 * 11, 8 * 16 - 79 * 12, 0, DOWN};
        for (int what = 0; what <= 3; what++) {
            int at = what;
            Edge.still("t 0, what " + what, Scene::make, x -> x.where(0, 0, 0, at), leaving[what]);
            Edge.still("t 1000, what " + what, Scene::make, x -> x.where(0, 0, 1000, at), last[what]);
        }
        Due.part("promise 22: another what");
        Edge.outside("what", Scene::make, (x, what) -> x.where(0, 0, 5, what), 0, 3, NONE_TOLD);
        Edge.outside("what, left", Scene::make, (x, what) -> x.where(1, 0, 5, what), 0, 3, NONE_TOLD);
    }

    /** Load 0 of plane 1, which is unlike the others, with two groups, in a wind of its own in each layer. */
    private static void aboutToLeave(JumpDesk x) {
        blowByLayer(x);
        x.plane(1, 10, 1000, 350, 46000);
        x.rule(1, 20000);
        x.load(1);
        for (int g = 0; g < 2; g++) {
            x.group(0, 9000, 0, 0);
            x.join(g, g);
            x.put(0, g, 30);
        }
        x.start(0, -6000);
    }

    private static void asAhead(String what, JumpDesk left) {
        JumpDesk ahead = Edge.desk(FallEdges::aboutToLeave);
        for (int i = 0; i < 2; i++) {
            for (int t : new int[] {0, 1, 5, 40, 100, 200, 300, 1000}) {
                for (int of = 0; of <= 3; of++) {
                    String call = what + ", group " + i + " at " + t + " what " + of;
                    Due.due(call, left.where(0, i, t, of), ahead.where(0, i, t, of));
                }
            }
        }
    }

    private static void whenLeft() {
        Due.part("promise 22: of a load that has left by these as they were then");
        Edge.Call[] later = {x -> 1, x -> x.wind(0, -1, -1), x -> x.wind(4, 99, 98), x -> x.wind(11, 7, 7),
            x -> x.plane(1, 5, 500, 600, 46000), x -> x.plane(1, 5, 500, 350, 47000)};
        for (int n = 0; n < later.length; n++) {
            JumpDesk left = Edge.desk(FallEdges::aboutToLeave);
            Due.due("it leaves", left.leave(0, 0), 2);
            Due.due("changed", later[n].on(left), 1);
            asAhead("left, then change " + n, left);
            Due.due("its plane is the same one", left.in(0, 0), 1);
        }
        JumpDesk bySheets = Edge.desk(FallEdges::aboutToLeave);
        bySheets.leave(0, 0);
        bySheets.sheet(0, 1);
        Due.due("no wind at all", bySheets.winds(0, 0), 1);
        asAhead("left, then winds from sheets", bySheets);
        Due.part("promise 22: by the wind, and its plane, as they are");
        JumpDesk x = Edge.desk(Scene::make);
        x.wind(10, 1, 2);
        x.plane(0, 10, 1000, 600, 44000);
        Due.due("height", x.where(0, 0, 0, 2), 44000);
        Due.due("x of the second", x.where(0, 1, 0, 0), -4000 + 600 * 20);
        x.wind(11, 3, 4);
        Due.due("x a second on", x.where(0, 0, 1, 0), -4000 + 300 + 3);
        Due.due("y a second on", x.where(0, 0, 1, 1), 4);
        Due.due("x two seconds on", x.where(0, 0, 2, 0), -4000 + 450 + 3 + 1);
        Due.due("y two seconds on", x.where(0, 0, 2, 1), 4 + 2);
    }
}
