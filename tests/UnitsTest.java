/**
 * The bytes of units and messages (terms 3 and 4). Cells of messages are made cells of a call's channel on the link, and
 * so come to an end as a frame of data that can be read byte by byte.
 */
public final class UnitsTest {
    private static final Expect due = new Expect("UnitsTest");

    public static void main(String[] args) {
        messagesOfACall();
        messagesOfAnEnd();
        pollsAndStatus();
        gaps();
        resets();
        recovers();
        ends();
        begins();
        due.end();
    }

    /** Time 25: a call from 0 to 1 on channel 32, all is acknowledged, both ends have told two messages and one. */
    private static CellSwitch quiet() {
        CellSwitch x = Link.connected(1);
        x.tick(5);
        int[] sent = {2, 1, 2, 2};
        for (int side = 0; side < 4; side++) {
            due.same("told by side " + side, x.line(side, 1), sent[side]);
            due.same("acknowledged", x.line(side, 9), 0);
            due.same("nothing waits", x.direction(side, 8), 0);
        }
        return x;
    }

    private static CellSwitch calling(int ticks) {
        CellSwitch x = quiet();
        x.call(0, 1, 2);
        if (ticks > 0) {
            x.tick(ticks);
        }
        return x;
    }

    /** Makes cell k of the next tick a frame, and reads it at the end where it comes out. */
    private static void read(String what, CellSwitch x, int direction, int k, int... bytes) {
        int to = direction == 0 || direction == 3 ? 1 : 0;
        int before = x.received(to, -1, 0);
        Link.divert(x, direction, k);
        x.tick(direction % 2 == 0 ? 2 : 1);
        due.same(what + " came", x.received(to, -1, 0), before + 1);
        due.same(what + ": its length", x.received(to, 0, 1), bytes.length);
        for (int i = 0; i < bytes.length; i++) {
            due.same(what + ": byte " + i, x.byteOf(to, 0, i), bytes[i]);
        }
    }

    private static void messagesOfACall() {
        read("SETUP of an end", calling(0), 0, 0,
            9, 3, 0, 0, 2, 5, 128, 0, 10, 112, 128, 0, 1, 1, 89, 128, 0, 1, 2, 8, 0, 0, 2);
        read("PROCEEDING of the switch", calling(1), 1, 0,
            9, 3, 128, 0, 2, 2, 128, 0, 6, 90, 128, 0, 2, 0, 33, 8, 0, 0, 2);
        read("SETUP of the switch", calling(1), 3, 0,
            9, 3, 0, 0, 2, 5, 128, 0, 21, 112, 128, 0, 1, 1, 89, 128, 0, 1, 2, 108, 128, 0, 1, 0, 90, 128, 0, 2, 0, 33,
            8, 0, 0, 2);
        read("CONNECT of an end", calling(2), 2, 0, 9, 3, 128, 0, 2, 7, 128, 0, 0, 8, 0, 0, 1);
        read("CONFIRM of the switch", calling(3), 3, 0, 9, 3, 0, 0, 2, 15, 128, 0, 0, 8, 0, 0, 3);
        read("CONNECT of the switch", calling(3), 1, 0, 9, 3, 128, 0, 2, 7, 128, 0, 0, 8, 0, 0, 3);
        read("CONFIRM of an end", calling(4), 0, 0, 9, 3, 0, 0, 2, 15, 128, 0, 0, 8, 0, 0, 3);
    }

    private static void messagesOfAnEnd() {
        CellSwitch x = quiet();
        x.policy(1, 1, 20);
        x.call(0, 1, 2);
        x.tick(2);
        read("PROCEEDING of an end", x, 2, 0, 9, 3, 128, 0, 2, 2, 128, 0, 0, 8, 0, 0, 1);
        x = calling(10);
        x.hang(0, 1);
        read("RELEASE of an end", x, 0, 0, 9, 3, 0, 0, 2, 77, 128, 0, 5, 8, 128, 0, 1, 16, 8, 0, 0, 4);
        x = calling(10);
        x.hang(0, 1);
        x.tick(1);
        read("COMPLETE of the switch", x, 1, 0, 9, 3, 128, 0, 2, 90, 128, 0, 5, 8, 128, 0, 1, 16, 8, 0, 0, 4);
        x = calling(10);
        x.hang(0, 1);
        x.tick(1);
        read("RELEASE of the switch", x, 3, 0, 9, 3, 0, 0, 2, 77, 128, 0, 5, 8, 128, 0, 1, 16, 8, 0, 0, 4);
        x = calling(10);
        x.hang(0, 1);
        x.tick(2);
        read("COMPLETE of an end", x, 2, 0, 9, 3, 128, 0, 2, 90, 128, 0, 5, 8, 128, 0, 1, 16, 8, 0, 0, 2);
        x = calling(10);
        x.hang(0, 1);
        Link.change(x, 0, 0, 4, 7, 3, 1);
        x.tick(1);
        read("COMPLETE of no call", x, 1, 0, 9, 3, 128, 1, 5, 90, 128, 0, 5, 8, 128, 0, 1, 81, 8, 0, 0, 4);
        // the highest reference there is
        x = calling(10);
        x.hang(0, 1);
        Link.change(x, 0, 0, 2, 127, 3, 255, 4, 2 ^ 255);
        x.tick(1);
        read("COMPLETE of the highest", x, 1, 0, 9, 3, 255, 255, 255, 90, 128, 0, 5, 8, 128, 0, 1, 81, 8, 0, 0, 4);
        // the end has none of the switch's references 3, nor one of its own
        x = calling(10);
        x.hang(0, 1);
        x.tick(1);
        Link.change(x, 3, 0, 4, 1, 2, 128);
        x.tick(1);
        read("COMPLETE of no call", x, 2, 0, 9, 3, 0, 0, 3, 90, 128, 0, 5, 8, 128, 0, 1, 81, 8, 0, 0, 2);
        x = quiet();
        x.policy(1, 2, 1);
        x.call(0, 1, 2);
        x.tick(2);
        read("COMPLETE of policy 2", x, 2, 0, 9, 3, 128, 0, 2, 90, 128, 0, 5, 8, 128, 0, 1, 17, 8, 0, 0, 1);
        x = quiet();
        x.call(0, 1, 3);
        x.tick(1);
        read("COMPLETE of a rate", x, 1, 0, 9, 3, 128, 0, 2, 90, 128, 0, 5, 8, 128, 0, 1, 37, 8, 0, 0, 2);
    }

    private static void pollsAndStatus() {
        read("POLL", calling(1), 0, 0, 0, 0, 0, 3, 10, 0, 0, 3);
        read("STATUS", calling(2), 1, 0, 0, 0, 0, 3, 0, 0, 0, 11, 11, 0, 0, 3);
        // of DATA 2 .. 6 only 3, 5, 6 come, and no GAP
        CellSwitch x = quiet();
        for (int i = 0; i < 5; i++) {
            x.call(0, 1, 5);
        }
        x.damage(0, Link.LOSE, 0, 0, 0);
        x.damage(0, Link.LOSE, 2, 0, 0);
        x.tick(1);
        due.line("3 and 5 came ahead", x, 2, 2, 2, 2, 10, 2, 2, 2, 6, 0, 0, 2);
        Link.lose(x, 1, 0, 2);
        x.tick(1);
        due.line("6, too", x, 2, 2, 2, 2, 10, 2, 2, 2, 7, 0, 0, 3);
        read("STATUS with a list", x, 1, 0, 0, 0, 0, 2, 0, 0, 0, 3, 0, 0, 0, 4, 0, 0, 0, 5, 0, 0, 0, 7, 0, 0, 0, 3,
            0, 0, 0, 10, 11, 0, 0, 2);
    }

    private static void gaps() {
        CellSwitch x = quiet();
        for (int i = 0; i < 3; i++) {
            x.call(0, 1, 5);
        }
        x.damage(0, Link.LOSE, 0, 0, 0);
        x.damage(0, Link.LOSE, 1, 0, 0);
        x.tick(1);
        read("GAP", x, 1, 0, 0, 0, 0, 2, 0, 0, 0, 4, 0, 0, 0, 10, 12, 0, 0, 2);
    }

    private static void resets() {
        CellSwitch x = quiet();
        x.reset(0);
        read("RESET", x, 0, 0, 0, 0, 0, 8, 5, 0, 0, 2);
        x.tick(2);
        due.same("RESETTING still", x.line(0, 0), 3);
        x.tick(1);
        read("RESET DONE", x, 1, 0, 0, 0, 0, 8, 6, 0, 0, 0);
        x.tick(3);
        read("RESET again has the same N", x, 0, 0, 0, 0, 0, 8, 5, 0, 0, 2);
        x.tick(5);
        due.same("RESET the fourth time, READY", x.line(0, 0), 2);
        x.reset(0);
        read("another RESET has another", x, 0, 0, 0, 0, 0, 8, 5, 0, 0, 3);
    }

    private static CellSwitch recovering() {
        CellSwitch x = calling(2);
        Link.change(x, 1, 0, 3, 4);
        x.tick(1);
        due.same("RESETTING by a wrong STATUS", x.line(0, 0), 3);
        return x;
    }

    private static void recovers() {
        read("RECOVER", recovering(), 0, 0, 0, 0, 0, 8, 9, 0, 0, 2);
        CellSwitch x = recovering();
        x.tick(1);
        read("RECOVERED", x, 1, 0, 0, 0, 0, 8, 15, 0, 0, 0);
    }

    private static void ends() {
        CellSwitch x = quiet();
        x.quit(0);
        read("END", x, 0, 0, 3, 0, 0, 0);
        x = quiet();
        x.quit(0);
        for (int k = 16; k <= 56; k += 20) {
            x.damage(0, Link.LOSE, k, 0, 0);
        }
        x.damage(0, Link.LOSE, 0, 0, 0);
        x.tick(19);
        read("END at last", x, 0, 0, 3, 0, 0, 1);
        // POLL of the switch made an END: the end answers ENDED while the switch is READY
        x = calling(2);
        Link.change(x, 1, 1, 0, 3, 3, 3, 43, 12);
        x.tick(1);
        due.line("cut", x, 0, 0, 0, 0, 0, 0, 0, 0, 0, 0, 0, 0, 1);
        read("ENDED", x, 0, 0, 4, 0, 0, 0);
    }

    private static void begins() {
        CellSwitch x = quiet();
        x.quit(0);
        x.damage(0, Link.LOSE, 0, 0, 0);
        for (int k = 16; k <= 76; k += 20) {
            x.damage(0, Link.LOSE, k, 0, 0);
        }
        x.tick(20);
        x.call(0, 1, 1);
        read("BEGIN", x, 0, 0, 0, 0, 0, 8, 1, 0, 0, 2);
        // POLL of the switch made a BEGIN: the end answers BEGUN
        x = calling(2);
        Link.change(x, 1, 1, 3, 3 ^ 8, 4, 10 ^ 1);
        x.tick(1);
        due.line("READY anew, not cut", x, 0, 2, 0, 0, 8, 0, 0, 0, 0, 0, 0, 0, 0);
        due.call("as of one that is cut", x, 0, 0, 0, 1, 32, 1, 1, 41);
        read("BEGUN", x, 0, 0, 0, 0, 0, 8, 2, 0, 0, 0);
    }
}
