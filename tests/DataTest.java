/** Promises 8 (send), 11 (received) and 12 (byteOf): frames over the channels of calls. */
public final class DataTest {
    private static final Expect due = new Expect("DataTest");

    public static void main(String[] args) {
        wrongInputs();
        framesOfAllLengths();
        fourMayWait();
        cellsGoByTheRate();
        twentyAreKept();
        spoiltFrames();
        slippedFrames();
        framesOfACallThatIsOver();
        manyCallsAtOnce();
        messagesGoFirst();
        cellsOfNoCall();
        due.end();
    }

    private static void wrongInputs() {
        CellSwitch x = Link.synced(2);
        x.call(0, 1, 1);
        due.bad("send with no bytes", x.send(0, 0));
        Link.tape(x, 30, 1);
        int crc = x.crc();
        due.bad("send(2, 0)", x.send(2, 0));
        due.bad("send(-1, 0)", x.send(-1, 0));
        due.bad("send(0, 1)", x.send(0, 1));
        due.bad("send(0, -1)", x.send(0, -1));
        due.same("send of ASKED", x.send(0, 0), CellSwitch.NONE);
        x.tick(4);
        due.same("send of PROCEEDING", x.send(0, 0), CellSwitch.NONE);
        due.same("the tape stays", x.crc(), crc);
        x.tick(6);
        due.same("send of ACTIVE", x.send(0, 0), 1);
        due.same("the tape is empty", x.crc(), 0);
        x.tick(2);
        due.same("received", x.received(1, -1, 0), 1);
        due.bad("received(1, -1, 1)", x.received(1, -1, 1));
        due.bad("received(1, -2, 0)", x.received(1, -2, 0));
        due.bad("received(1, 1, 0)", x.received(1, 1, 0));
        due.bad("received(1, 0, 3)", x.received(1, 0, 3));
        due.bad("received(1, 0, -1)", x.received(1, 0, -1));
        due.bad("received(0, 0, 0)", x.received(0, 0, 0));
        due.bad("received(2, -1, 0)", x.received(2, -1, 0));
        due.bad("received(-1, -1, 0)", x.received(-1, -1, 0));
        due.bad("byteOf(1, 0, 30)", x.byteOf(1, 0, 30));
        due.bad("byteOf(1, 0, -1)", x.byteOf(1, 0, -1));
        due.bad("byteOf(1, 1, 0)", x.byteOf(1, 1, 0));
        due.bad("byteOf(1, -1, 0)", x.byteOf(1, -1, 0));
        due.bad("byteOf(2, 0, 0)", x.byteOf(2, 0, 0));
        due.bad("byteOf(-1, 0, 0)", x.byteOf(-1, 0, 0));
        x.hang(0, 0);
        Link.tape(x, 30, 1);
        due.same("send of RELEASING", x.send(0, 0), CellSwitch.NONE);
    }

    private static void framesOfAllLengths() {
        CellSwitch x = Link.connected(3);
        for (int length = 1; length <= 200; length++) {
            byte[] bytes = Link.tape(x, length, 7 * length);
            due.same("send", x.send(length % 2, 0), 1);
            x.tick(3);
            int to = 1 - length % 2;
            due.same("its call", x.received(to, 0, 0), 0);
            due.same("its bytes", x.received(to, 0, 1), length);
            // up to 3 cells go in a tick, each takes one tick more; messages may hold up the last one
            int late = x.count(1) - x.received(to, 0, 2);
            due.isTrue("its time", late == 0 || late == 1 && length + 8 <= 3 * 48);
            for (int k = 0; k < length; k += length < 20 ? 1 : 13) {
                due.same("byte " + k, x.byteOf(to, 0, k), bytes[k] & 255);
            }
            due.same("the last byte", x.byteOf(to, 0, length - 1), bytes[length - 1] & 255);
            due.bad("behind it", x.byteOf(to, 0, length));
        }
        due.same("half of them", x.received(0, -1, 0), 100);
        due.same("half of them", x.received(1, -1, 0), 100);
        due.same("none spoilt", x.direction(1, 6) + x.direction(3, 6), 0);
        due.same("none lost", x.direction(0, 7) + x.direction(1, 7) + x.direction(2, 7) + x.direction(3, 7), 0);
    }

    private static void fourMayWait() {
        CellSwitch x = Link.connected(1);
        for (int i = 1; i <= 4; i++) {
            Link.tape(x, 41, i);
            due.same("send", x.send(0, 0), i);
        }
        byte[] fifth = Link.tape(x, 10, 5);
        due.same("a fifth", x.send(0, 0), CellSwitch.FULL);
        due.isTrue("the tape stays", x.crc() != 0);
        x.tick(1);
        due.same("one of two cells is gone", x.about(0, 0, 6), 4);
        due.same("it waits still", x.send(0, 0), CellSwitch.FULL);
        x.tick(1);
        due.same("the first is gone", x.about(0, 0, 6), 3);
        due.same("send", x.send(0, 0), 4);
        x.tick(8);
        due.same("all came but for the last, which is under way", x.received(1, -1, 0), 5);
        due.same("the last one", x.received(1, 0, 1), 10);
        due.same("its bytes", x.byteOf(1, 0, 9), fifth[9] & 255);
        due.same("in order", x.received(1, 1, 1), 41);
    }

    private static void cellsGoByTheRate() {
        for (int rate = 1; rate <= 3; rate++) {
            CellSwitch x = Link.connected(rate);
            x.tick(10);
            int before = x.count(2) - x.count(3);
            for (int i = 0; i < 4; i++) {
                Link.tape(x, 200, i);
                x.send(0, 0);
            }
            int first = (5 + rate - 1) / rate;
            x.tick(first);
            due.same("not yet of rate " + rate, x.received(1, -1, 0), 0);
            x.tick(1);
            due.same("the first of rate " + rate, x.received(1, -1, 0), 1);
            int all = (20 + rate - 1) / rate;
            x.tick(all - first - 1);
            due.same("all gone of rate " + rate, x.about(0, 0, 6), 0);
            due.same("not all came", x.received(1, -1, 0), 3);
            x.tick(1);
            due.same("all of rate " + rate, x.received(1, -1, 0), 4);
            due.isTrue("two times twenty cells", x.count(2) - x.count(3) - before >= 40);
        }
    }

    private static void twentyAreKept() {
        CellSwitch x = Link.connected(3);
        for (int i = 1; i <= 23; i++) {
            Link.tape(x, i, i);
            x.send(0, 0);
            x.tick(1);
        }
        x.tick(1);
        due.same("all are counted", x.received(1, -1, 0), 23);
        for (int i = 0; i < 20; i++) {
            due.same("the latest first", x.received(1, i, 1), 23 - i);
        }
        due.bad("twenty are kept", x.received(1, 20, 1));
        due.bad("twenty are kept", x.byteOf(1, 20, 0));
        due.same("the oldest that is kept", x.received(1, 19, 2), 25);
    }

    private static void spoiltFrames() {
        CellSwitch x = Link.connected(1);
        x.tick(10);
        // one bit of a byte of a frame that is one cell
        Link.tape(x, 40, 1);
        x.send(0, 0);
        x.damage(0, Link.FLIP, x.direction(0, 8), 20, 1);
        x.tick(2);
        due.same("not received", x.received(1, -1, 0), 0);
        due.same("spoilt where it is put together", x.direction(3, 6), 1);
        due.same("not at the switch", x.direction(0, 6), 0);
        // the first of two cells does not come: the number of cells is wrong
        Link.tape(x, 41, 2);
        x.send(0, 0);
        x.damage(0, Link.LOSE, x.direction(0, 8), 0, 0);
        x.tick(3);
        due.same("spoilt", x.direction(3, 6), 2);
        // the last of two does not come: it spoils the next one, too
        Link.tape(x, 41, 2);
        x.send(0, 0);
        x.tick(1);
        x.damage(0, Link.LOSE, x.direction(0, 8), 0, 0);
        x.tick(1);
        Link.tape(x, 5, 2);
        x.send(0, 0);
        x.tick(2);
        due.same("spoilt", x.direction(3, 6), 3);
        due.same("not received", x.received(1, -1, 0), 0);
        Link.tape(x, 6, 2);
        x.send(0, 0);
        x.tick(2);
        due.same("received", x.received(1, 0, 1), 6);
    }

    private static void slippedFrames() {
        CellSwitch x = Link.connected(1);
        x.tick(10);
        // three frames of 5 cells of which the last cell is lost twice: five without a last one
        for (int i = 0; i < 2; i++) {
            Link.tape(x, 200, i);
            x.send(0, 0);
        }
        x.tick(4);
        Link.lose(x, 0, 0, 4);
        x.tick(1);
        due.same("four of five", x.direction(3, 6), 0);
        x.tick(2);
        due.same("the fifth is the first of the next frame", x.direction(3, 6), 1);
        x.tick(4);
        due.same("the four others of it", x.direction(3, 6), 2);
        due.same("not received", x.received(1, -1, 0), 0);
    }

    private static void framesOfACallThatIsOver() {
        CellSwitch x = Link.connected(1);
        for (int i = 0; i < 3; i++) {
            Link.tape(x, 100, i);
            x.send(0, 0);
        }
        x.tick(2);
        due.same("three wait", x.about(0, 0, 6), 3);
        x.hang(0, 0);
        due.same("gone", x.about(0, 0, 6), 0);
        x.tick(6);
        due.same("nothing came", x.received(1, -1, 0), 0);
        // what came of the frame is gone: the next call on that channel begins anew
        x.call(0, 1, 1);
        x.tick(6);
        due.call("active", x, 1, 1, 10, 1002, 32);
        Link.tape(x, 100, 9);
        x.send(0, 1);
        x.tick(4);
        due.same("received", x.received(1, 0, 1), 100);
        due.same("of call 1", x.received(1, 0, 0), 1);
        due.same("none is spoilt", x.direction(3, 6), 0);
    }

    private static void manyCallsAtOnce() {
        CellSwitch x = Link.synced(4);
        x.call(0, 1, 1);
        x.call(0, 2, 1);
        x.call(0, 3, 1);
        x.call(1, 2, 1);
        x.call(2, 3, 1);
        x.tick(15);
        int[][] calls = {{0, 0, 1, 1}, {0, 1, 2, 1}, {0, 2, 3, 0}, {1, 0, 2, 2}, {2, 0, 3, 1}};
        for (int[] c : calls) {
            due.same("active", x.about(c[0], c[1], 0), 10);
            Link.tape(x, 60 + c[0] + 10 * c[1], c[1]);
            due.same("send", x.send(c[0], c[1]), 1);
        }
        x.tick(4);
        due.same("end 1", x.received(1, -1, 0), 1);
        due.same("end 2", x.received(2, -1, 0), 2);
        due.same("end 3", x.received(3, -1, 0), 2);
        for (int i = 0; i < 2; i++) {
            int call = x.received(2, i, 0);
            due.same("of the call", x.received(2, i, 1), x.about(2, call, 4) == 0 ? 70 : 61);
        }
        due.same("from 0", x.received(1, 0, 1), 60);
    }

    private static void messagesGoFirst() {
        CellSwitch x = Link.connected(3);
        x.tick(10);
        for (int i = 0; i < 3; i++) {
            Link.tape(x, 200, i);
            x.send(0, 0);
        }
        for (int i = 0; i < 7; i++) {
            x.call(0, 1, 5);
        }
        int waits = x.direction(0, 8);
        x.tick(1);
        // 7 SETUPs and a POLL are 8 cells; 4 cells go
        due.same("messages that wait", x.direction(0, 8), waits + 4);
        due.same("data that wait", x.direction(0, 9), 3);
        x.tick(1);
        due.same("messages that wait", x.direction(0, 8), 0);
        due.same("data that wait", x.direction(0, 9), 6);
        x.tick(1);
        due.same("data that wait", x.direction(0, 9), 5);
        x.tick(8);
        due.same("all came", x.received(1, -1, 0), 3);
        due.same("none lost", x.direction(0, 7), 0);
    }

    private static void cellsOfNoCall() {
        CellSwitch x = Link.connected(1);
        Link.tape(x, 100, 1);
        x.send(0, 0);
        // the other end hangs: cells that come to it, and to the switch, are lost
        x.tick(1);
        x.hang(1, 0);
        x.tick(1);
        due.same("cell 0 came to an end that is RELEASING", x.direction(3, 7), 1);
        due.same("cell 1 was passed on before RELEASE came", x.direction(0, 7), 0);
        x.tick(1);
        due.same("cell 1 is lost", x.direction(3, 7), 2);
        due.same("cell 2 is lost at the switch", x.direction(0, 7), 1);
        due.same("nothing came", x.received(1, -1, 0), 0);
    }
}
