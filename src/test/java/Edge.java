import java.util.List;

/** What a sentence of the document bars, and what it allows: each time with new desks that are made alike. */
final class Edge {
    interface Made {
        void on(JumpDesk x);
    }

    interface Call {
        long on(JumpDesk x);
    }

    interface CallWith {
        long on(JumpDesk x, int v);
    }

    private Edge() {
    }

    static JumpDesk desk(Made made) {
        JumpDesk x = new JumpDesk();
        made.on(x);
        return x;
    }

    /** The answer is due, and the call changes nothing: a desk with it and one without it look the same. */
    static void still(String what, Made made, Call call, long due) {
        for (int part = 0; part < Look.PARTS; part++) {
            JumpDesk with = desk(made);
            long got = call.on(with);
            if (part == 0) {
                Due.due(what, got, due);
            }
            List<Long> without = Look.at(desk(made), part);
            Due.holds(what + ", changed by it: part " + part, Look.at(with, part).equals(without));
        }
    }

    /** The answer is due, and a question put then is answered with what the call brought. */
    static void done(String what, Made made, Call call, long due, Call then, long dueThen) {
        JumpDesk x = desk(made);
        Due.due(what, call.on(x), due);
        Due.due(what + ", then", then.on(x), dueThen);
    }

    /** A number that must be from least to most: on both sides the first ones that may not be are barred. */
    static void outside(String what, Made made, CallWith call, int least, int most, long barred) {
        for (int v : new int[] {least - 1, Integer.MIN_VALUE, most + 1, Integer.MAX_VALUE}) {
            still(what + " " + v, made, x -> call.on(x, v), barred);
        }
    }

    /** The last ones that may be, on both sides, are taken: a question put then is answered with them. */
    static void inside(String what, Made made, CallWith call, int least, int most, long due, Call then) {
        for (int v : new int[] {least, most}) {
            done(what + " " + v, made, x -> call.on(x, v), due, then, v);
        }
    }
}
