/** A load of two groups, from the winds to the jump. */
public final class FirstLoad {
    public static void main(String[] args) {
        JumpDesk desk = new JumpDesk();

        // Winds along x from sheet 0, in metres a second: 3.5 low, unknown in layer 1, 6 from layer 2 on; along y none.
        desk.sheet(0, 3);
        desk.cell(0, 0, 7, 1);
        desk.gap(0, 1);
        desk.cell(0, 2, 6, 0);
        desk.sheet(1, 1);
        desk.winds(0, 1);
        tell("wind of layer 1 along x", desk.blows(1, 0));

        // A helper and a learner jump high, a plain jumper falls flat; their gear is good up to a day.
        desk.jumper(0, 2, 85, 1000);
        desk.jumper(1, 1, 70, 1000);
        desk.jumper(2, 0, 80, 300);
        int pair = desk.group(3, 9000, 80, 0);
        int solo = desk.group(0, 9000, 60, 0);
        desk.join(pair, 0);
        desk.join(pair, 1);
        desk.join(solo, 2);

        // Both in a load of plane 0, five seconds apart.
        int load = desk.load(0);
        desk.put(load, pair, 5);
        desk.put(load, solo, 5);
        tell("why not, on day 200", desk.why(load, 200));
        tell("the shortest order, in seconds", desk.order(load));
        tell("its first group", desk.in(load, 10));

        // From where all come home.
        int least = desk.spot(load, 0);
        int greatest = desk.spot(load, 1);
        tell("the least start", least);
        tell("the greatest start", greatest);
        desk.start(load, (least + greatest) / 2);
        tell("why not, on day 301", desk.why(load, 301));
        tell("why not, on day 200", desk.why(load, 200));

        tell("jumpers that leave", desk.leave(load, 200));
        tell("x of the second group at the end", desk.where(load, 1, 1000, 0));
        tell("one more into a group that is up", desk.join(solo, 3));
    }

    private static void tell(String what, long answer) {
        System.out.println(what + ": " + answer);
    }
}
