/** The boundary cases of term 1 CELLS AND LINKS, each at the boundary and on both sides of it. */
public final class CellsBoundsTest {
    private static final Expect due = new Expect("CellsBoundsTest");

    public static void main(String[] args) {
        term1FortyDataCellsOfAnEnd();
        term1FortyDataCellsOfTheSwitch();
        term1FortyMessageCells();
        term1FramesOfMessagesWholly();
        term1DamagesAreOfTheNextCells();
        term1AllDamagesOfACellCount();
        term1FiveOctetsSinceItBeganToHunt();
        term1ARightHeaderAnywhere();
        term1WrongHeadersOfPresync();
        term1TheSixthIsTheFirstThatIsTaken();
        term1SevenInARow();
        term1SixInARowTwice();
        term1OneBitOfForty();
        term1DetectionThrowsAway();
        term1DealtWithAtItsLastOctet();
        term1IdleCells();
        term1MessagesAreOfChannel5();
        due.end();
    }

    // ---- queues

    /** Time 25, a call whose rate at end 1 is 255: frames go into the data queue as soon as they may. */
    private static CellSwitch fast() {
        CellSwitch x = Link.synced(2);
        x.call(0, 1, 1);
        Link.change(x, 3, 20, 18, 254);
        x.tick(15);
        due.call("rate 255", x, 1, 0, 10, 1001, 32, 255);
        return x;
    }

    private static void send(CellSwitch x, int e, int bytes) {
        Link.tape(x, bytes, bytes);
        due.isTrue("send", x.send(e, 0) > 0);
    }

    private static void term1FortyDataCellsOfAnEnd() {
        due.of("Term 1, 'two queues, .. 40 cells each; what does not fit is LOST'");
        // 20 cells come and 4 go, twice: 32 wait; then 7, 8, 9 or 10 more
        int[][] more = {{70, 39, 0}, {100, 40, 0}, {150, 40, 1}, {200, 40, 2}};
        for (int[] last : more) {
            CellSwitch x = fast();
            for (int round = 0; round < 2; round++) {
                for (int i = 0; i < 4; i++) {
                    send(x, 1, 200);
                }
                x.tick(1);
            }
            due.direction("32 wait", x, 2, 2, 0, 0, x.direction(2, 3), 0, 0, 0, 0, 0, 32);
            send(x, 1, 200);
            send(x, 1, last[0]);
            x.tick(1);
            due.same("all but 4 wait", x.direction(2, 9), last[1] - 4);
            due.same("LOST", x.direction(2, 7), last[2]);
            due.same("no frame waits", x.about(1, 0, 6), 0);
            x.tick(12);
            due.same("frames that came", x.received(0, -1, 0), last[2] == 0 ? 10 : 9);
            due.same("LOST stays", x.direction(2, 7), last[2]);
            due.same("none of another direction", x.direction(0, 7) + x.direction(1, 7) + x.direction(3, 7), 0);
        }
    }

    /** Two ends send 4 cells a tick to end 0, whose link takes 4: the 40th fits, the 41st does not. */
    private static void term1FortyDataCellsOfTheSwitch() {
        due.of("Term 1, '40 cells each', of the switch's data");
        CellSwitch x = Link.synced(3);
        x.call(0, 1, 1);
        x.call(0, 2, 1);
        Link.change(x, 3, 20, 18, 254);
        Link.change(x, 5, 20, 18, 254);
        x.tick(15);
        for (int i = 0; i < 9; i++) {
            for (int e = 1; e <= 2 && i < 8; e++) {
                send(x, e, 200);
            }
            x.tick(1);
            due.same("that wait behind tick " + i, x.direction(1, 9), 8 + 4 * i);
            due.same("none is LOST", x.direction(1, 7), 0);
        }
        due.same("40 wait", x.direction(1, 9), 40);
        x.tick(1);
        due.same("4 go, 8 come", x.direction(1, 9), 40);
        due.same("LOST where it begins", x.direction(1, 7), 4);
        due.same("not on the way to the switch", x.direction(2, 7) + x.direction(4, 7), 0);
    }

    /** Loses all that a direction puts on its link with the next tick. */
    private static void tickInSilence(CellSwitch x, int direction) {
        Link.lose(x, direction, 0, 4);
        x.tick(1);
    }

    private static void polls(CellSwitch x, int n, int times) {
        for (int i = 0; i < times; i++) {
            Inject.unit(x, 1, Inject.last(Inject.POLL, n));
        }
    }

    /**
     * DATA 2, 4 and 6 came ahead of 1. A POLL with N 7 is answered by a list of 7 and so by one cell, one with N 8 by a list
     * of 8 and so by two. What goes to end 1 is lost on the link.
     */
    private static CellSwitch ahead() {
        CellSwitch x = Inject.open();
        for (int n = 2; n <= 6; n += 2) {
            Inject.data(x, n, 1);
        }
        x.tick(1);
        due.line("ahead", x, 3, 2, 2, 2, 10, 1, 1, 1, 7, 0, 0, 3);
        due.same("three GAPs wait", x.direction(3, 8), 3);
        return x;
    }

    private static void term1FortyMessageCells() {
        due.of("Term 1, 'two queues, for messages .., 40 cells each'");
        CellSwitch x = ahead();
        for (int t = 0; t < 9; t++) {
            polls(x, 8, 4);
            tickInSilence(x, 3);
            due.same("4 go, 8 come", x.direction(3, 8), 8 + 4 * t);
        }
        due.same("40 wait", x.direction(3, 8), 40);
        due.same("none is LOST", x.direction(3, 7), 0);
        due.same("reset", x.reset(3), 1);
        due.same("RESET does not fit", x.direction(3, 8), 40);
        due.same("it is LOST", x.direction(3, 7), 1);
        due.same("RESETTING all the same", x.line(3, 0), 3);
        tickInSilence(x, 3);
        due.same("36 wait", x.direction(3, 8), 36);
    }

    private static void term1FramesOfMessagesWholly() {
        due.of("Term 1, '(frames of messages wholly, if not all their cells fit)'");
        CellSwitch x = ahead();
        polls(x, 7, 1);
        polls(x, 8, 3);
        tickInSilence(x, 3);
        due.same("one STATUS of one cell, three of two", x.direction(3, 8), 7);
        for (int t = 1; t < 9; t++) {
            polls(x, 8, 4);
            tickInSilence(x, 3);
            due.same("4 go, 8 come", x.direction(3, 8), 7 + 4 * t);
        }
        due.same("39 wait", x.direction(3, 8), 39);
        polls(x, 8, 3);
        tickInSilence(x, 3);
        due.same("35, 37, 39, and two more do not fit", x.direction(3, 8), 39);
        due.same("both are LOST", x.direction(3, 7), 2);
        due.same("reset", x.reset(3), 1);
        due.same("RESET fits", x.direction(3, 8), 40);
        due.same("no other is LOST", x.direction(3, 7), 2);
    }

    // ---- damages

    private static void term1DamagesAreOfTheNextCells() {
        due.of("Term 1, 'for its cell k from now on (0 the next one put on the link, idle ones too)'");
        // idle cells, messages and data are counted alike: BEGIN is cell 0 of the first tick, SETUP cell 8
        CellSwitch x = Link.synced(2);
        x.call(0, 1, 1);
        x.damage(0, Link.LOSE, 0, 0, 0);
        x.tick(1);
        due.same("BEGIN is lost", x.line(2, 0), 0);
        x = Link.synced(2);
        x.call(0, 1, 1);
        x.damage(0, Link.LOSE, 1, 0, 0);
        x.tick(1);
        due.same("an idle cell is lost", x.line(2, 0), 2);
        due.same("three are taken", x.direction(0, 3), 38);
        int[] cells = {7, 8, 9};
        for (int k : cells) {
            x = Link.synced(2);
            x.call(0, 1, 1);
            x.damage(0, Link.LOSE, k, 0, 0);
            x.tick(3);
            due.same("SETUP came, unless cell 8 is lost", x.line(2, 6), k == 8 ? 0 : 1);
        }
        due.of("Term 1, 'SLIP: its last octet does not come'");
        // the octet behind a slip ends the cell: that of the next header comes too early by one
        x = Link.synced(2);
        x.damage(0, Link.SLIP, 3, 0, 0);
        x.tick(1);
        due.direction("52 octets of it came", x, 0, 2, 0, 0, 38, 0, 0);
        x.tick(1);
        due.direction("taken with the first of the next, whose header is wrong", x, 0, 2, 1, 4, 39, 4, 0);
    }

    private static void term1AllDamagesOfACellCount() {
        due.of("Term 1, 'of one cell all count (LOSE alone, if it is there)'");
        int[][] kinds = {{1, 1}, {2, 1}, {1, 2}, {2, 2}, {0, 1}, {1, 0}, {0, 2}, {2, 0}, {0, 0}};
        for (int[] two : kinds) {
            CellSwitch x = Link.synced(2);
            // FLIP is told of the bits 1 and 2: a header with two wrong bits is thrown away
            x.damage(0, two[0], 0, 0, 1);
            x.damage(0, two[1], 0, 0, 2);
            due.same("two are told", x.damage(0, Link.LOSE, 900, 0, 0), 3);
            x.tick(1);
            boolean lost = two[0] == 0 || two[1] == 0;
            boolean slips = !lost && (two[0] == 2 || two[1] == 2);
            boolean twice = two[0] == 1 && two[1] == 1;
            boolean once = !lost && !twice && (two[0] == 1 || two[1] == 1);
            String what = two[0] + " and " + two[1];
            due.same("put right: " + what, x.direction(0, 5), once ? 1 : 0);
            due.same("wrong headers: " + what, x.direction(0, 2), slips ? 3 + (once ? 1 : 0) : 0);
            due.same("taken: " + what, x.direction(0, 3), 35 + (lost ? 3 : slips ? 1 : 3));
            due.same("thrown away: " + what, x.direction(0, 4), twice ? 1 : slips ? 3 : 0);
            due.same("both are used up", x.damage(0, Link.LOSE, 900, 0, 0), 2);
        }
    }

    // ---- receivers

    private static void wrong(CellSwitch x, int direction, int k) {
        x.damage(direction, Link.FLIP, k, 1, 3);
    }

    private static void term1FiveOctetsSinceItBeganToHunt() {
        due.of("Term 1, 'the latest five octets since it began to hunt'");
        // the five octets of the first header are just enough: the first cell counts
        CellSwitch x = new CellSwitch(2);
        Link.lose(x, 0, 1, 3);
        x.tick(1);
        due.direction("with the first header", x, 0, 1, 0, 1, 0, 0, 0);
        // a right header whose first octet came before the hunt began does not count: the wrong one of PRESYNC ends with it
        int hec = x.header(0x03000152, 0, 0);
        x = new CellSwitch(2);
        wrong(x, 0, 1);
        x.damage(0, Link.FLIP, 1, 5, 106 ^ hec);
        Link.lose(x, 0, 2, 2);
        x.tick(1);
        due.direction("four octets of it came before", x, 0, 0, 0, 0, 0);
        // of the five octets that are right one came before: the HEC of the wrong header; or none of them
        int[][] ahead = {{5 + 3, x.header(0x526A6A6A, 0, 0), 0}, {5 + 4, x.header(0x6A6A6A6A, 0, 0), 1}};
        for (int[] octet : ahead) {
            x = new CellSwitch(2);
            wrong(x, 0, 1);
            x.damage(0, Link.FLIP, 1, octet[0], 106 ^ octet[1]);
            Link.lose(x, 0, 2, 2);
            x.tick(1);
            due.direction("right with octet " + octet[0], x, 0, octet[2], 0, octet[2], 0);
        }
        // the same octets, when the hunt began long before, are a header
        x = new CellSwitch(2);
        wrong(x, 0, 0);
        x.damage(0, Link.FLIP, 0, 5, 106 ^ hec);
        Link.lose(x, 0, 1, 3);
        x.tick(1);
        due.direction("all five came since then", x, 0, 1, 0, 1, 0);
    }

    private static void term1ARightHeaderAnywhere() {
        due.of("Term 1, '48 octets pass, the next five are a header'");
        // cell 0 without its header, found in its octets 1 .. 5: the next five octets are those 1 .. 5 of cell 1
        int hec = new CellSwitch(2).header(0x00000156, 0, 0);
        for (int cells = 2; cells <= 4; cells++) {
            CellSwitch x = new CellSwitch(2);
            x.damage(0, Link.FLIP, 0, 4, 82 ^ 0x56);
            x.damage(0, Link.FLIP, 0, 5, 106 ^ hec);
            x.damage(0, Link.FLIP, 1, 4, 82 ^ 0x56);
            x.damage(0, Link.FLIP, 1, 5, 106 ^ hec);
            Link.lose(x, 0, cells, 4 - cells);
            x.tick(1);
            due.direction("shifted by one, " + cells + " cells", x, 0, cells == 3 ? 0 : 1, 0, cells == 2 ? 2 : cells == 3 ? 0 : 1);
        }
    }

    private static void term1WrongHeadersOfPresync() {
        due.of("Term 1, 'RIGHT, one more; else HUNT (begun anew behind them)'");
        // the wrong header of 8 cells, and the receiver then: how it is, its count, cells taken and thrown away
        int[][] behind = {{1, 2, 0, 2, 0}, {2, 2, 0, 1, 0}, {3, 1, 5, 0, 0}, {4, 1, 4, 0, 0}, {5, 1, 3, 0, 0},
            {6, 1, 2, 0, 0}, {7, 2, 0, 2, 1}, {8, 2, 1, 2, 1}};
        for (int[] at : behind) {
            CellSwitch x = new CellSwitch(2);
            wrong(x, 0, at[0] - 1);
            x.tick(2);
            due.direction("header " + at[0] + " is wrong", x, 0, at[1], at[0] == 8 ? 1 : 0, at[2], at[3], at[4]);
        }
        CellSwitch x = new CellSwitch(2);
        x.damage(0, Link.FLIP, 1, 0, 128);
        x.tick(1);
        due.direction("one bit is not put right", x, 0, 1, 0, 2, 0, 0, 0);
    }

    private static void term1TheSixthIsTheFirstThatIsTaken() {
        due.of("Term 1, 'With the 6th it is SYNC, and the cell of this header is the first that is TAKEN'");
        for (int cells = 4; cells <= 8; cells++) {
            CellSwitch x = new CellSwitch(2);
            x.tick(1);
            Link.lose(x, 0, 0, 8 - cells);
            x.tick(1);
            due.same("how it is with " + cells, x.direction(0, 0), cells < 6 ? 1 : 2);
            due.same("right ones", x.direction(0, 2), cells < 6 ? cells : 0);
            due.same("taken", x.direction(0, 3), cells < 6 ? 0 : cells - 5);
        }
        CellSwitch x = new CellSwitch(2);
        x.tick(1);
        x.call(0, 1, 1);
        x.tick(1);
        due.same("BEGIN as the 5th is not taken", x.line(2, 0), 0);
        due.same("SYNC", x.direction(0, 0), 2);
        CellSwitch y = new CellSwitch(2);
        Link.lose(y, 0, 0, 3);
        y.tick(2);
        due.direction("five cells", y, 0, 1, 0, 5, 0);
        y.call(0, 1, 1);
        y.tick(1);
        due.same("BEGIN as the 6th is taken", y.line(2, 0), 2);
    }

    private static void term1SevenInARow() {
        due.of("Term 1, 'a header that is not RIGHT the 7th time in a row: HUNT'");
        for (int n = 5; n <= 8; n++) {
            CellSwitch x = Link.synced(2);
            for (int k = 0; k < n; k++) {
                wrong(x, 0, k);
            }
            x.tick(1);
            due.direction("4 wrong ones", x, 0, 2, 1, 4, 35, 4, 0);
            x.tick(1);
            if (n < 7) {
                due.direction(n + " wrong ones, then right ones", x, 0, 2, 0, 0, 35 + 8 - n, n, 0);
            } else {
                due.direction(n + " wrong ones", x, 0, n == 7 ? 1 : 0, 0, n == 7 ? 1 : 0, 35, 6, 0);
            }
        }
        // one that is put right is not RIGHT, either
        CellSwitch x = Link.synced(2);
        x.damage(0, Link.FLIP, 0, 4, 1);
        for (int k = 1; k < 7; k++) {
            wrong(x, 0, k);
        }
        x.tick(2);
        due.direction("put right, then six wrong ones", x, 0, 1, 0, 1, 36, 5, 1);
    }

    private static void term1SixInARowTwice() {
        due.of("Term 1, 'the 7th time in a row', with a right one between");
        CellSwitch x = Link.synced(2);
        for (int k = 0; k < 6; k++) {
            wrong(x, 0, k);
        }
        x.tick(1);
        x.tick(1);
        due.direction("six, then two right ones", x, 0, 2, 0, 0, 37, 6, 0);
        for (int k = 0; k < 6; k++) {
            wrong(x, 0, k);
        }
        x.tick(1);
        due.direction("four", x, 0, 2, 1, 4, 37, 10, 0);
        x.tick(1);
        due.direction("six, then two right ones", x, 0, 2, 0, 0, 39, 12, 0);
    }

    private static void term1OneBitOfForty() {
        due.of("Term 1, 'one that is RIGHT with one bit of its 40 changed'");
        int[] bits = {0, 1, 31, 32, 38, 39};
        for (int bit : bits) {
            // SETUP is cell 8; it is taken with the bit changed back
            CellSwitch x = Link.synced(2);
            x.call(0, 1, 1);
            x.damage(0, Link.FLIP, 8, bit / 8, 128 >> bit % 8);
            x.tick(3);
            due.same("put right: bit " + bit, x.direction(0, 5), 1);
            due.same("taken: bit " + bit, x.line(2, 6), 1);
            due.same("not thrown away", x.direction(0, 4), 0);
            CellSwitch y = Link.synced(2);
            y.call(0, 1, 1);
            y.damage(0, Link.FLIP, 8, bit / 8, 128 >> bit % 8);
            y.damage(0, Link.FLIP, 8, 2, 4);
            y.tick(3);
            due.same("two bits are not put right", y.direction(0, 5), 0);
            due.same("thrown away: two bits", y.direction(0, 4), 1);
            due.same("not taken", y.line(2, 6), 0);
        }
    }

    private static void term1DetectionThrowsAway() {
        due.of("Term 1, 'DETECTION: a RIGHT one: taken, CORRECTION; else thrown away'");
        CellSwitch x = Link.synced(2);
        x.damage(0, Link.FLIP, 0, 0, 128);
        x.damage(0, Link.FLIP, 1, 0, 128);
        x.damage(0, Link.FLIP, 3, 0, 128);
        x.tick(1);
        due.direction("put right, thrown away, taken, put right", x, 0, 2, 1, 1, 38, 1, 2);
        wrong(x, 0, 0);
        x.damage(0, Link.FLIP, 1, 0, 128);
        x.damage(0, Link.FLIP, 2, 0, 128);
        x.tick(1);
        due.direction("three are thrown away, one is taken", x, 0, 2, 0, 0, 39, 4, 2);
        // SYNC that begins anew begins with CORRECTION
        for (int k = 0; k < 7; k++) {
            wrong(x, 0, k);
        }
        x.tick(3);
        due.direction("HUNT, then PRESYNC", x, 0, 1, 0, 5, 39, 10, 2);
        x.damage(0, Link.FLIP, 1, 0, 128);
        x.tick(1);
        due.direction("the 6th, then one that is put right", x, 0, 2, 0, 0, 43, 10, 3);
    }

    private static void term1DealtWithAtItsLastOctet() {
        due.of("Term 1, 'A cell is dealt with when its last octet comes'");
        CellSwitch x = Link.synced(2);
        x.call(0, 1, 1);
        Link.lose(x, 0, 1, 3);
        x.damage(0, Link.SLIP, 0, 0, 0);
        x.tick(1);
        due.same("52 octets of BEGIN", x.line(2, 0), 0);
        due.same("not yet taken", x.direction(0, 3), 35);
        x.tick(1);
        due.same("taken with the next octet", x.direction(0, 3), 36);
        due.same("which is not that of the CRC: SPOILT", x.direction(0, 6), 1);
        // the next octet made that of the CRC
        CellSwitch y = Link.synced(2);
        y.call(0, 1, 1);
        Link.lose(y, 0, 1, 3);
        y.damage(0, Link.SLIP, 0, 0, 0);
        y.damage(0, Link.FLIP, 4, 0, lastOctetOfBegin());
        y.tick(1);
        due.same("not before", y.line(2, 0), 0);
        y.tick(1);
        due.same("READY with it", y.line(2, 0), 2);
        due.same("not SPOILT", y.direction(0, 6), 0);
    }

    /** Of the unit of BEGIN: M 8, and kind 1 with N 1. */
    private static int lastOctetOfBegin() {
        CellSwitch x = new CellSwitch(2);
        Inject.put(x, Inject.bytesOf(8, Inject.last(Inject.BEGIN, 1)));
        return x.crc() & 255;
    }

    // ---- what cells are

    /** Makes cell k, which is idle, one with these four octets and the HEC of them. */
    private static void head(CellSwitch x, int direction, int k, int octets) {
        for (int i = 0; i < 4; i++) {
            int mask = (octets ^ 1) >>> (24 - 8 * i) & 255;
            if (mask != 0) {
                x.damage(direction, Link.FLIP, k, i, mask);
            }
        }
        int mask = x.header(1, 0, 0) ^ x.header(octets, 0, 0);
        if (mask != 0) {
            x.damage(direction, Link.FLIP, k, 4, mask);
        }
    }

    private static void term1IdleCells() {
        due.of("Term 1, 'any cell of VPI 0, CHANNEL 0 that is taken is such a one'");
        int[][] heads = {{0x0, 0}, {0x1, 0}, {0x2, 0}, {0xE, 0}, {0xF, 0}, {0x10, 1}, {0x00080000, 1}, {0x00100001, 1},
            {0x08000001, 1}, {0x0FF00001, 1}, {0x1F, 1}, {0x000FFFF0, 1}};
        for (int[] one : heads) {
            for (int d = 0; d < 2; d++) {
                CellSwitch x = Inject.quiet();
                int taken = x.direction(d, 3);
                head(x, d, 0, one[0]);
                x.tick(1);
                String what = "octets " + Integer.toHexString(one[0]);
                due.same(what + " LOST", x.direction(d, 7), one[1]);
                due.same(what + " taken", x.direction(d, 3), taken + 4);
                due.same(what + " not SPOILT", x.direction(d, 6), 0);
            }
        }
    }

    private static void term1MessagesAreOfChannel5() {
        due.of("Term 1, 'for messages (of cells of CHANNEL 5)'");
        int[][] heads = {{0x42, 1, 0}, {0x52, 0, 1}, {0x53, 0, 1}, {0x5E, 0, 1}, {0x50, 0, 0}, {0x62, 1, 0},
            {0x00100052, 1, 0}, {0x00001052, 1, 0}};
        for (int[] one : heads) {
            for (int d = 0; d < 2; d++) {
                CellSwitch x = Inject.quiet();
                head(x, d, 1, one[0]);
                x.tick(1);
                String what = "octets " + Integer.toHexString(one[0]);
                due.same(what + " LOST", x.direction(d, 7), one[1]);
                due.same(what + " SPOILT, as the last of a frame", x.direction(d, 6), one[2]);
            }
        }
    }
}
