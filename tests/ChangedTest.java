/**
 * Units and messages that are changed on the link with a CRC that fits: what no side tells is thrown away,
 * what a side may tell counts. (Terms 2, 3 and 4; promises 9, 14, 17 and 18.)
 *
 * With two ends and a call at time 10, direction 0 has BEGIN as its cell 0, SETUP as 8, STATUS and POLL as 20 and 21;
 * direction 1 has BEGUN as its cell 4, PROCEEDING as 12; direction 3 has SETUP as its cell 20, CONFIRM as 28.
 */
public final class ChangedTest {
    private static final Expect due = new Expect("ChangedTest");
    private static final int BEGIN = 0, DATA = 8, STATUS = 20, POLL = 21, BEGUN = 4, PROCEEDING = 12, SETUP = 20,
        CONFIRM = 28;

    public static void main(String[] args) {
        spoiltOrNot();
        beginsThatNoSideTells();
        begunThatNoSideTells();
        endsThatNoSideTells();
        answersOfAnotherKind();
        wrongStatus();
        wrongGap();
        dataOutOfTheWindow();
        pollAboveTheWindow();
        setupsThatAreRefused();
        setupsThatAreNothing();
        proceedingThatIsNothing();
        anotherChannel();
        confirmThatIsNothing();
        releaseOfNoCall();
        theDataQueueIsFull();
        framesOfAnotherLength();
        dataWithoutBytes();
        connectAtAnotherTime();
        due.end();
    }

    private static CellSwitch called() {
        CellSwitch x = Link.synced(2);
        x.call(0, 1, 1);
        return x;
    }

    private static void spoiltOrNot() {
        CellSwitch x = called();
        x.damage(0, Link.FLIP, BEGIN, 5 + 3, 1);
        x.tick(1);
        due.same("the CRC does not fit", x.direction(0, 6), 1);
        due.same("IDLE", x.line(2, 0), 0);
        int[] lengths = {8, 8 ^ 201, 8 ^ 41};
        for (int mask : lengths) {
            CellSwitch y = called();
            Link.change(y, 0, BEGIN, 43, mask);
            y.tick(1);
            due.same("0, 201, or 41 bytes of one cell", y.direction(0, 6), 1);
            due.same("IDLE", y.line(2, 0), 0);
        }
        CellSwitch z = called();
        Link.change(z, 0, BEGIN, 20, 77, 40, 1, 41, 2);
        z.tick(1);
        due.same("only the CRC and the number of bytes count", z.direction(0, 6), 0);
        due.same("READY", z.line(2, 0), 2);
    }

    private static void beginsThatNoSideTells() {
        int[][] changes = {{3, 1}, {0, 1}, {7, 1}, {4, 6}, {43, 1}, {43, 4}};
        for (int[] change : changes) {
            CellSwitch x = called();
            Link.change(x, 0, BEGIN, change);
            x.tick(1);
            String what = "byte " + change[0] + " of BEGIN";
            due.same(what + " is not spoilt", x.direction(0, 6), 0);
            due.same(what + " is thrown away", x.line(2, 0), 0);
            x.tick(5);
            due.same("the next one comes", x.line(2, 0), 2);
        }
        CellSwitch x = called();
        Link.change(x, 0, BEGIN, 5, 255, 6, 255, 7, 254);
        x.tick(1);
        due.same("any N but 0", x.line(2, 0), 2);
    }

    private static void begunThatNoSideTells() {
        int[][] changes = {{3, 1}, {7, 1}, {43, 4}, {4, 4}};
        for (int[] change : changes) {
            CellSwitch x = called();
            Link.change(x, 1, BEGUN, change);
            x.tick(6);
            due.same("byte " + change[0] + " of BEGUN: BEGINNING", x.line(0, 0), 1);
            due.line("READY since 11", x, 2, 2, 0, 0, 8, 0, 0, 0, 0);
            x.tick(1);
            due.same("BEGUN again", x.line(0, 0), 2);
        }
    }

    private static void endsThatNoSideTells() {
        CellSwitch x = Link.connected(1);
        int k = x.direction(0, 8);
        x.quit(0);
        Link.change(x, 0, k, 3, 2);
        x.tick(4);
        due.same("END 2 is thrown away", x.line(2, 0), 2);
        x.tick(1);
        due.same("END 0 comes at 25", x.line(2, 0), 0);
        Link.change(x, 1, x.direction(1, 8) - 1, 3, 1);
        x.tick(1);
        due.same("ENDED 1 is thrown away", x.line(0, 0), 4);
        x.tick(5);
        due.same("END at 30, ENDED at 31", x.line(0, 0), 0);
        due.same("cut once", x.line(2, 11), 1);
        CellSwitch y = Link.connected(1);
        k = y.direction(0, 8);
        y.quit(0);
        Link.change(y, 0, k, 3, 1);
        y.tick(1);
        due.same("END 1 counts as END 0 does", y.line(2, 0), 0);
    }

    private static void answersOfAnotherKind() {
        CellSwitch x = Link.connected(1);
        x.reset(0);
        x.tick(1);
        Link.change(x, 1, x.direction(1, 8) - 1, 4, 6 ^ 15);
        x.tick(1);
        due.same("RECOVERED is no answer to RESET", x.line(0, 0), 3);
        due.line("READY anew since 21", x, 2, 2, 0, 0, 8, 0, 0, 0, 0, 0);
        x.tick(4);
        due.same("RESET again, RESET DONE", x.line(0, 0), 2);
        // RECOVER instead of RESET: RECOVERED is no answer to RESET either
        CellSwitch y = Link.connected(1);
        int k = y.direction(0, 8);
        y.reset(0);
        Link.change(y, 0, k, 4, 5 ^ 9);
        y.tick(2);
        due.same("RESETTING", y.line(0, 0), 3);
        due.line("READY anew since 21", y, 2, 2, 0, 0, 8, 0, 0, 0, 0, 0);
        y.tick(4);
        due.same("RESET 25 of the same N: RESET DONE", y.line(0, 0), 2);
        // RESET and RECOVER of N 0 are thrown away
        CellSwitch z = Link.connected(1);
        k = z.direction(0, 8);
        z.reset(0);
        Link.change(z, 0, k, 7, 2);
        z.tick(1);
        due.isTrue("not anew", z.line(2, 1) > 0);
    }

    private static void recovers(String what, CellSwitch x, int side, int other) {
        due.same(what + ": RESETTING", x.line(side, 0), 3);
        due.same(what + ": not yet there", x.line(other, 0), 2);
        x.tick(1);
        due.line(what + ": RECOVER came", x, other, 2, 0, 0, 8, 0, 0, 0, 0);
        x.tick(1);
        due.line(what + ": RECOVERED came", x, side, 2, 0, 0, 8, 0, 0, 0);
        due.same(what + ": never cut", x.line(side, 11) + x.line(other, 11), 0);
    }

    private static void wrongStatus() {
        CellSwitch x = called();
        Link.change(x, 0, STATUS, 11, 3, 7, 3);
        x.tick(6);
        recovers("STATUS with N above S", x, 2, 0);
        x = called();
        Link.change(x, 0, STATUS, 3, 3);
        x.tick(6);
        recovers("STATUS with P above P", x, 2, 0);
        x = called();
        Link.change(x, 0, STATUS, 0, 128);
        x.tick(6);
        recovers("STATUS with a P of 32 bits", x, 2, 0);
        x = called();
        Link.change(x, 0, STATUS, 11, 3);
        x.tick(6);
        due.line("M does not fit N: thrown away", x, 2, 2, 1, 0, 8, 1, 0);
        x = called();
        Link.change(x, 0, STATUS, 11, 1, 7, 1);
        x.tick(6);
        due.line("N 0 is A still, P counts", x, 2, 2, 1, 0, 8, 1, 1);
        // P 0 is PA still
        x = called();
        Link.change(x, 0, STATUS, 3, 1);
        x.tick(6);
        due.line("P 0 is PA still", x, 2, 2, 1, 1, 9, 1, 0);
        // the list of one whose DATA 0 is lost is 0, 1 with P 1: not above S, nor falling
        int[][] lists = {{7, 2}, {7, 1}, {3, 1}, {4, 128}};
        for (int[] change : lists) {
            x = called();
            x.damage(0, Link.LOSE, DATA, 0, 0);
            x.tick(6);
            Link.change(x, 1, x.direction(1, 8) - 1, change);
            x.tick(1);
            due.same("a list that does not rise up to S at most", x.line(0, 0), 3);
            due.line("MAY and A stay", x, 0, 3, 1, 0, 8, 1, 0);
        }
    }

    private static void wrongGap() {
        int[][] changes = {{7, 8}, {7, 1}, {3, 1}, {15, 1, 11, 1}, {4, 128}};
        for (int[] change : changes) {
            CellSwitch x = called();
            x.call(0, 1, 1);
            x.call(0, 1, 1);
            x.damage(0, Link.LOSE, DATA, 0, 0);
            x.tick(3);
            Link.change(x, 1, 0, change);
            x.tick(1);
            recovers("byte " + change[0] + " of GAP", x, 0, 2);
        }
        for (int upTo = 2; upTo <= 3; upTo++) {
            CellSwitch x = called();
            x.call(0, 1, 1);
            x.call(0, 1, 1);
            x.damage(0, Link.LOSE, DATA, 0, 0);
            x.tick(3);
            Link.change(x, 1, 0, 7, 1 ^ upTo);
            x.tick(1);
            due.line("0 up to " + upTo + " go again", x, 0, 2, 3, 0, 8, 0, 0, 0, 0, 0, 3);
            x.tick(1);
            due.same("all came", x.line(2, 6), 3);
            due.same("DATA 1 came twice, its call was made once", x.link(0, 0, 0), 3);
        }
        CellSwitch x = called();
        x.call(0, 1, 1);
        x.damage(0, Link.LOSE, DATA, 0, 0);
        x.tick(3);
        Link.change(x, 1, 0, 11, 1);
        x.tick(2);
        due.line("M does not fit N: thrown away", x, 0, 2, 2, 0, 8, 0, 0);
        due.line("not again", x, 2, 2, 0, 0, 8, 0, 0, 0, 2, 0, 0, 1);
    }

    private static void dataOutOfTheWindow() {
        CellSwitch x = called();
        Link.change(x, 0, DATA, 22, 8);
        x.tick(3);
        due.line("DATA 8 is not below M", x, 2, 2, 0, 0, 8, 0, 0, 0, 0, 0, 0, 0);
        CellSwitch y = called();
        Link.change(y, 0, DATA, 22, 7);
        y.tick(3);
        due.line("DATA 7 came ahead", y, 2, 2, 0, 0, 8, 0, 0, 0, 8, 0, 0, 1);
        y.tick(1);
        recovers("GAP of what was not sent", y, 0, 2);
    }

    private static void pollAboveTheWindow() {
        CellSwitch x = called();
        Link.change(x, 0, POLL, 7, 1 ^ 200);
        x.tick(6);
        due.line("H is M", x, 2, 2, 1, 1, 9, 1, 1, 1, 9);
        x.tick(1);
        due.same("a list above S is wrong", x.line(0, 0), 3);
        CellSwitch y = called();
        Link.change(y, 0, POLL, 7, 1);
        y.tick(6);
        due.same("N 0: H stays", y.line(2, 7), 1);
    }

    private static void setupsThatAreRefused() {
        int[][] changes = {{13, 1, 1}, {13, 3, 1}, {13, 254, 1}, {18, 1, 96}, {18, 5, 96}, {18, 255, 96}};
        for (int[] change : changes) {
            CellSwitch x = called();
            Link.change(x, 0, DATA, change[0], change[1]);
            x.tick(4);
            due.call("byte " + change[0] + " by " + change[1], x, 0, 0, 0, 1, -2, 1, 1, change[2]);
            due.same("no call", x.link(0, 0, 0), 0);
        }
    }

    private static void setupsThatAreNothing() {
        int[][] changes = {{0, 1}, {1, 1}, {2, 128}, {5, 1}, {5, 8}, {6, 1}, {7, 1}, {8, 1}, {9, 1}, {10, 1}, {11, 1},
            {12, 3}, {14, 2}, {15, 128}, {17, 1}};
        for (int[] change : changes) {
            CellSwitch x = called();
            Link.change(x, 0, DATA, change);
            x.tick(4);
            due.call("byte " + change[0], x, 0, 0, 1, 1, -2, 1, 1, 0);
            due.same("no call of byte " + change[0], x.link(0, 0, 0), 0);
            due.same("the message was taken", x.line(2, 6), 1);
            due.same("and not answered", x.line(2, 1) + x.line(2, 8), 0);
            x.tick(6);
            due.call("SETUP again", x, 0, 0, 3, 1, 32);
        }
        // another reference is another call
        CellSwitch x = called();
        Link.change(x, 0, DATA, 4, 6);
        x.tick(3);
        due.same("a call", x.link(0, 0, 0), 1);
        x.tick(1);
        due.call("PROCEEDING of no call of this end", x, 0, 0, 1);
    }

    private static void proceedingThatIsNothing() {
        int[][] changes = {{5, 1}, {2, 128}, {4, 2}, {9, 1}, {12, 3}, {0, 4}};
        for (int[] change : changes) {
            CellSwitch x = called();
            Link.change(x, 1, PROCEEDING, change);
            x.tick(7);
            due.call("byte " + change[0] + ": ASKED", x, 0, 0, 1, 1, -2, 1, 1, 0);
            x.tick(1);
            due.call("CONNECT with no channel", x, 0, 0, 11, 1, -2, 1, 1, 96);
            x.tick(2);
            due.call("RELEASE 96", x, 1, 0, 0, 1001, 32, 1, 0, 96);
            due.call("COMPLETE", x, 0, 0, 0, 1, -2, 1, 1, 96);
        }
    }

    private static void anotherChannel() {
        CellSwitch x = called();
        Link.change(x, 1, PROCEEDING, 14, 8, 13, 1);
        x.tick(10);
        due.call("channel 296", x, 0, 0, 10, 1, 296);
        Link.tape(x, 90, 1);
        x.send(0, 0);
        x.tick(5);
        due.same("the switch knows 32 alone", x.direction(0, 7), 3);
        Link.tape(x, 90, 1);
        x.send(1, 0);
        x.tick(5);
        due.same("the end knows 296 alone", x.direction(1, 7), 3);
    }

    private static void confirmThatIsNothing() {
        int[][] changes = {{5, 1}, {5, 13}, {5, 8}, {2, 128}, {4, 1}, {8, 1}};
        for (int[] change : changes) {
            CellSwitch x = called();
            Link.change(x, 3, CONFIRM, change);
            x.tick(10);
            due.call("the end that calls is ACTIVE", x, 0, 0, 10);
            due.call("the other one is not", x, 1, 0, 8);
            x.tick(5);
            due.call("ANSWERED at 25", x, 1, 0, 8);
            x.tick(1);
            due.call("RELEASE 102 at 26", x, 1, 0, 11, 1001, 32, 1, 0, 102);
            x.tick(2);
            due.call("RELEASE 102", x, 0, 0, 0, 1, 32, 1, 1, 102);
        }
    }

    private static void releaseOfNoCall() {
        CellSwitch x = Link.connected(1);
        x.hang(0, 0);
        Link.change(x, 0, x.direction(0, 8), 4, 2);
        int said = x.line(2, 1);
        x.tick(2);
        due.same("COMPLETE 81 of that reference", x.line(2, 1), said + 1);
        due.call("RELEASING", x, 0, 0, 11, 1, 32, 1, 1, 16);
        due.same("joined still", x.link(0, 2, 0), 1);
        x.tick(8);
        due.same("RELEASE again at 30", x.link(0, 2, 0), 0);
        x.tick(1);
        due.call("COMPLETE", x, 0, 0, 0, 1, 32, 1, 1, 16);
        // another cause is the cause of the others
        CellSwitch y = Link.connected(1);
        y.hang(0, 0);
        Link.change(y, 0, y.direction(0, 8), 13, 16 ^ 200);
        y.tick(2);
        due.call("the cause that came", y, 1, 0, 0, 1001, 32, 1, 0, 200);
        due.call("one that is RELEASING keeps its own", y, 0, 0, 0, 1, 32, 1, 1, 16);
        CellSwitch z = Link.connected(1);
        z.hang(0, 0);
        Link.change(z, 0, z.direction(0, 8), 13, 16);
        z.tick(2);
        due.call("any cause", z, 1, 0, 0, 1001, 32, 1, 0, 0);
    }

    private static void theDataQueueIsFull() {
        CellSwitch x = called();
        Link.change(x, 3, SETUP, 18, 254);
        x.tick(15);
        due.call("rate 255", x, 1, 0, 10, 1001, 32, 255);
        for (int round = 0; round < 3; round++) {
            for (int i = 0; i < 4; i++) {
                Link.tape(x, 200, i);
                due.same("send", x.send(1, 0), i + 1);
            }
            x.tick(1);
            due.same("all cells in one tick", x.about(1, 0, 6), 0);
        }
        due.same("40 but for the 4 that go", x.direction(2, 9), 36);
        due.same("of 60 cells", x.direction(2, 7), 12);
        x.tick(10);
        due.same("nine whole frames of 48 cells", x.received(0, -1, 0), 9);
    }

    /** The length in the last cell of a frame of data, with a CRC that fits. */
    private static void framesOfAnotherLength() {
        int[][] lengths = {{200, 201, 0}, {200, 199, 1}, {200, 184, 0}, {200, 185, 1}, {1, 0, 0}, {1, 40, 1}, {1, 41, 0}};
        for (int[] length : lengths) {
            CellSwitch x = Link.connected(3);
            x.tick(5);
            Link.tape(x, length[0], 1);
            x.send(0, 0);
            // of five cells at rate 3 the last is the second of the next tick
            Link.change(x, 0, length[0] > 40 ? 4 + 1 : 0, 43, length[0] ^ length[1]);
            x.tick(1);
            x.tick(3);
            String what = length[1] + " bytes instead of " + length[0];
            due.same(what, x.received(1, -1, 0), length[2]);
            due.same(what + ", spoilt", x.direction(3, 6), 1 - length[2]);
            if (length[2] == 1) {
                due.same(what, x.received(1, 0, 1), length[1]);
            }
        }
    }

    /** END made a DATA of no bytes, at R. */
    private static void dataWithoutBytes() {
        CellSwitch x = Link.connected(1);
        x.tick(5);
        due.line("R is 2", x, 2, 2, 2, 2, 10, 2, 2, 2, 2);
        x.quit(0);
        Link.change(x, 0, 0, 0, 3 ^ 8, 3, 2);
        x.tick(1);
        due.line("thrown away", x, 2, 2, 2, 2, 10, 2, 2, 2, 2, 0, 0, 0, 0);
    }

    /** CONFIRM of the end that calls made a CONNECT: nothing for the switch, whose call is ACTIVE. */
    private static void connectAtAnotherTime() {
        CellSwitch x = called();
        Link.change(x, 0, 32, 5, 7 ^ 15);
        x.tick(10);
        due.call("ACTIVE", x, 0, 0, 10);
        due.same("the switch told PROCEEDING and CONNECT", x.line(2, 1) + x.line(2, 8), 2);
        // PROCEEDING of the end called made a CONFIRM: nothing for the switch, which tells SETUP again
        CellSwitch y = Link.synced(2);
        y.policy(1, 1, 30);
        y.call(0, 1, 1);
        Link.change(y, 2, 24, 5, 2 ^ 15);
        y.tick(11);
        due.same("SETUP was told again", y.line(3, 1), 2);
        y.tick(9);
        due.call("and given up at 29", y, 0, 0, 0, 1, 32, 1, 1, 102);
    }
}
