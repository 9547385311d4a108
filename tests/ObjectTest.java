/** Promises 1 (a new object), 4 (tick) and 21 (count). */
public final class ObjectTest {
    public static void main(String[] args) {
        Expect due = new Expect("ObjectTest");
        endsAreTheNearest(due);
        aNewObjectIsIdle(due);
        ticksCount(due);
        due.end();
    }

    private static void endsAreTheNearest(Expect due) {
        int[] asked = {Integer.MIN_VALUE, -1, 0, 1, 2, 3, 4, 5, Integer.MAX_VALUE};
        int[] made = {2, 2, 2, 2, 2, 3, 4, 4, 4};
        for (int i = 0; i < asked.length; i++) {
            CellSwitch x = new CellSwitch(asked[i]);
            due.same("count(0) of " + asked[i], x.count(0), made[i]);
            due.same("calls of the last end", x.calls(made[i] - 1), 0);
            due.bad("calls of the next end", x.calls(made[i]));
        }
    }

    private static void aNewObjectIsIdle(Expect due) {
        CellSwitch x = new CellSwitch(3);
        due.same("BAD", CellSwitch.BAD, -1);
        due.same("NONE", CellSwitch.NONE, -2);
        due.same("FULL", CellSwitch.FULL, -3);
        due.same("time", x.count(1), 0);
        due.same("crc of an empty tape", x.crc(), 0);
        for (int side = 0; side < 6; side++) {
            due.line("new", x, side, 0, 0, 0, 0, 0, 0, 0, 0, 0, 0, 0, 0);
            for (int what = 0; what < 10; what++) {
                due.same("direction(" + side + ", " + what + ")", x.direction(side, what), 0);
            }
        }
        for (int e = 0; e < 3; e++) {
            due.same("calls", x.calls(e), 0);
            due.same("received", x.received(e, -1, 0), 0);
            due.same("open calls", x.link(e, 0, 0), 0);
            due.same("rates", x.link(e, 1, 0), 0);
            due.same("joined", x.link(e, 2, 0), 0);
            due.same("far channel", x.link(e, 3, 32), CellSwitch.NONE);
        }
        // policy 0 at first: the end called answers at once
        CellSwitch y = Link.connected(1);
        due.call("policy 0", y, 1, 0, 10);
    }

    private static void ticksCount(Expect due) {
        CellSwitch x = new CellSwitch(4);
        due.bad("tick(0)", x.tick(0));
        due.bad("tick(-1)", x.tick(-1));
        due.bad("tick(51)", x.tick(51));
        due.bad("tick(least)", x.tick(Integer.MIN_VALUE));
        due.same("time", x.count(1), 0);
        due.same("tick(1)", x.tick(1), 1);
        due.same("tick(50)", x.tick(50), 51);
        due.same("time", x.count(1), 51);
        due.same("cells, 4 a tick of 8 directions", x.count(2), 51 * 4 * 8);
        due.same("all idle", x.count(3), 51 * 4 * 8);
        // cells that are lost on the link are put on it, too
        Link.lose(x, 0, 0, 4);
        x.call(0, 1, 1);
        x.tick(1);
        due.same("cells", x.count(2), 52 * 4 * 8);
        due.same("idle but for BEGIN", x.count(3), 52 * 4 * 8 - 1);
        due.bad("count(4)", x.count(4));
        due.bad("count(-1)", x.count(-1));
    }
}
