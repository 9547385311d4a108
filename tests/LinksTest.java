/** Promises 17 (damage) and 18 (direction): receivers, queues, damages. */
public final class LinksTest {
    private static final Expect due = new Expect("LinksTest");

    public static void main(String[] args) {
        wrongInputs();
        damagesAreCounted();
        sixHeadersToSync();
        aWrongHeaderOfPresync();
        oneWrongBitIsPutRight();
        sevenWrongHeaders();
        sixWrongHeaders();
        aSlipIsSeenLater();
        aCellIsTakenWithItsLastOctet();
        allDamagesOfACellCount();
        loseAloneCounts();
        damagesKeepTheirKind();
        aHuntBeginsBehindTheHeader();
        aHeaderOffItsPlace();
        otherChannelsAreLost();
        due.end();
    }

    private static void direction(String when, CellSwitch x, int d, int... answers) {
        for (int what = 0; what < answers.length; what++) {
            due.same(when + ": direction(" + d + ", " + what + ")", x.direction(d, what), answers[what]);
        }
    }

    private static void wrongInputs() {
        CellSwitch x = new CellSwitch(2);
        due.bad("direction -1", x.damage(-1, 0, 0, 0, 0));
        due.bad("direction 4", x.damage(4, 0, 0, 0, 0));
        due.bad("kind -1", x.damage(0, -1, 0, 0, 0));
        due.bad("kind 3", x.damage(0, 3, 0, 0, 0));
        due.bad("k -1", x.damage(0, 0, -1, 0, 0));
        due.bad("k 1000", x.damage(0, 0, 1000, 0, 0));
        due.bad("octet -1", x.damage(0, 1, 0, -1, 1));
        due.bad("octet 53", x.damage(0, 1, 0, 53, 1));
        due.bad("mask 0", x.damage(0, 1, 0, 0, 0));
        due.bad("mask 256", x.damage(0, 1, 0, 0, 256));
        due.bad("direction(-1, 0)", x.direction(-1, 0));
        due.bad("direction(4, 0)", x.direction(4, 0));
        due.bad("what -1", x.direction(0, -1));
        due.bad("what 10", x.direction(0, 10));
        due.same("octet and mask are of FLIP alone", x.damage(3, 2, 999, -5, 999), 1);
        due.same("the edges of FLIP", x.damage(3, 1, 999, 52, 255), 2);
        due.same("the others", x.damage(3, 1, 0, 0, 1), 3);
    }

    private static void damagesAreCounted() {
        CellSwitch x = new CellSwitch(2);
        for (int k = 0; k < 8; k++) {
            due.same("damage " + k, x.damage(1, 0, k, 0, 0), k + 1);
        }
        due.same("a ninth", x.damage(1, 0, 0, 0, 0), CellSwitch.FULL);
        due.bad("wrong ones are BAD before FULL", x.damage(1, 5, 0, 0, 0));
        due.same("of another direction", x.damage(0, 0, 0, 0, 0), 1);
        x.tick(1);
        due.same("four are used up", x.damage(1, 0, 0, 0, 0), 5);
        x.tick(1);
        due.same("all are used up", x.damage(1, 0, 0, 0, 0), 1);
    }

    private static void sixHeadersToSync() {
        CellSwitch x = new CellSwitch(2);
        x.tick(1);
        direction("4 cells", x, 0, 1, 0, 4, 0, 0, 0, 0, 0, 0, 0);
        x.damage(0, Link.LOSE, 0, 0, 0);
        x.damage(0, Link.LOSE, 1, 0, 0);
        x.damage(0, Link.LOSE, 2, 0, 0);
        x.tick(1);
        direction("5 cells", x, 0, 1, 0, 5, 0);
        direction("8 cells", x, 1, 2, 0, 0, 3);
        Link.lose(x, 0, 0, 3);
        x.tick(1);
        direction("the 6th is taken", x, 0, 2, 0, 0, 1);
    }

    private static void aWrongHeaderOfPresync() {
        CellSwitch x = new CellSwitch(2);
        // one bit is not put right in PRESYNC; the hunt begins behind the header
        x.damage(2, Link.FLIP, 2, 0, 1);
        x.tick(1);
        direction("hunting till cell 3", x, 2, 1, 0, 1, 0, 0, 0);
        x.damage(2, Link.FLIP, 0, 4, 16);
        x.damage(2, Link.FLIP, 1, 4, 16);
        x.damage(2, Link.FLIP, 2, 4, 16);
        x.damage(2, Link.FLIP, 3, 4, 16);
        x.tick(1);
        direction("hunting", x, 2, 0, 0, 0, 0, 0, 0);
        x.tick(2);
        direction("6 right ones, then 2 more", x, 2, 2, 0, 0, 3, 0, 0);
    }

    private static void oneWrongBitIsPutRight() {
        CellSwitch x = Link.synced(2);
        int taken = x.direction(0, 3);
        due.same("taken since the 6th", taken, 35);
        x.damage(0, Link.FLIP, 3, 4, 1);
        x.tick(1);
        direction("put right, the mode is DETECTION", x, 0, 2, 1, 1, 39, 0, 1);
        x.damage(0, Link.FLIP, 0, 2, 64);
        x.damage(0, Link.FLIP, 3, 1, 3);
        x.tick(1);
        direction("one bit in DETECTION, two bits in CORRECTION", x, 0, 2, 1, 1, 41, 2, 1);
        x.tick(1);
        direction("a right one", x, 0, 2, 0, 0, 45, 2, 1);
        // each bit of the 40
        for (int bit = 0; bit < 40; bit++) {
            CellSwitch y = Link.synced(2);
            y.damage(1, Link.FLIP, 1, bit / 8, 128 >> bit % 8);
            y.tick(1);
            direction("bit " + bit, y, 1, 2, 0, 0, 39, 0, 1, 0, 0);
        }
    }

    private static void sevenWrongHeaders() {
        CellSwitch x = Link.synced(2);
        for (int k = 0; k < 7; k++) {
            x.damage(0, Link.FLIP, k, 1, 3);
        }
        x.tick(1);
        direction("4 wrong", x, 0, 2, 1, 4, 35, 4, 0);
        x.damage(0, Link.FLIP, 3, 0, 1);
        x.tick(1);
        direction("7 wrong, the 7th is not told, then hunting past a wrong one", x, 0, 0, 0, 0, 35, 6, 0);
        x.tick(1);
        direction("4 right", x, 0, 1, 0, 4, 35, 6, 0);
        x.tick(1);
        direction("SYNC with the 6th", x, 0, 2, 0, 0, 38, 6, 0);
    }

    private static void sixWrongHeaders() {
        CellSwitch x = Link.synced(2);
        x.damage(0, Link.FLIP, 0, 1, 1);
        for (int k = 1; k < 6; k++) {
            x.damage(0, Link.FLIP, k, 1, 3);
        }
        x.tick(2);
        direction("the first put right counts among the wrong; two right ones", x, 0, 2, 0, 0, 38, 5, 1);
    }

    private static void aSlipIsSeenLater() {
        CellSwitch x = Link.synced(2);
        x.damage(3, Link.SLIP, 0, 0, 0);
        x.tick(2);
        direction("7 wrong behind it, cell 7 is the 7th", x, 3, 0, 0, 0, 36, 6, 0);
        x.tick(2);
        direction("hunting finds 8, SYNC at 13", x, 3, 2, 0, 0, 39, 6, 0);
    }

    private static void aCellIsTakenWithItsLastOctet() {
        CellSwitch x = Link.synced(2);
        x.damage(0, Link.SLIP, 3, 0, 0);
        x.damage(0, Link.FLIP, 3, 3, 2);
        x.tick(1);
        direction("put right at the header, not taken yet", x, 0, 2, 1, 1, 38, 0, 1);
        x.tick(1);
        direction("taken with the next octet", x, 0, 2, 1, 5, 39, 4, 1);
    }

    private static void allDamagesOfACellCount() {
        CellSwitch x = Link.synced(2);
        // two bits of one octet, told one by one, and the same bit twice
        x.damage(0, Link.FLIP, 0, 0, 1);
        x.damage(0, Link.FLIP, 0, 0, 2);
        x.damage(0, Link.FLIP, 2, 0, 4);
        x.damage(0, Link.FLIP, 2, 0, 4);
        x.tick(1);
        direction("a wrong one and a right one", x, 0, 2, 0, 0, 38, 1, 0);
        // its last octet is gone once only
        x.damage(0, Link.SLIP, 0, 0, 0);
        x.damage(0, Link.SLIP, 0, 0, 0);
        x.damage(0, Link.FLIP, 0, 52, 1);
        x.tick(4);
        direction("like one slip", x, 0, 2, 0, 0, 42, 7, 0);
    }

    private static void loseAloneCounts() {
        CellSwitch x = Link.synced(2);
        x.damage(0, Link.FLIP, 0, 0, 3);
        x.damage(0, Link.SLIP, 0, 0, 0);
        x.damage(0, Link.LOSE, 0, 0, 0);
        due.same("three are told", x.damage(0, Link.FLIP, 999, 0, 1), 4);
        x.tick(1);
        direction("only not there", x, 0, 2, 0, 0, 38, 0, 0);
        due.same("all of it are used up", x.damage(0, Link.FLIP, 999, 0, 1), 2);
    }

    private static void damagesKeepTheirKind() {
        CellSwitch x = Link.synced(2);
        x.damage(0, Link.LOSE, 0, 0, 0);
        x.damage(0, Link.FLIP, 4, 0, 1);
        x.damage(0, Link.SLIP, 8, 0, 0);
        x.damage(0, Link.FLIP, 12, 1, 3);
        x.tick(1);
        direction("one is lost", x, 0, 2, 0, 0, 38, 0, 0);
        x.tick(1);
        direction("one is put right", x, 0, 2, 0, 0, 42, 0, 1);
        x.tick(2);
        direction("a slip hides the last", x, 0, 0, 0, 0, 43, 6, 1);
    }

    /** Octets of a wrong header and behind it look like a header, but the hunt begins behind it. */
    private static void aHuntBeginsBehindTheHeader() {
        CellSwitch x = Link.synced(2);
        for (int k = 0; k < 7; k++) {
            x.damage(0, Link.FLIP, k, 1, 3);
        }
        x.damage(0, Link.FLIP, 6, 5, 106 ^ x.header(0x03000152, 0, 0));
        x.tick(2);
        direction("the next cell is found", x, 0, 1, 0, 1, 35, 6, 0);
        x = new CellSwitch(2);
        x.damage(0, Link.FLIP, 1, 1, 3);
        x.damage(0, Link.FLIP, 1, 5, 106 ^ x.header(0x03000152, 0, 0));
        x.tick(1);
        direction("so it is behind a wrong one of PRESYNC", x, 0, 1, 0, 2, 0, 0, 0);
    }

    /** At first five octets anywhere may be a header: here 0, 0, 1, 86 and the octet behind an idle cell's header. */
    private static void aHeaderOffItsPlace() {
        CellSwitch x = new CellSwitch(2);
        x.damage(0, Link.FLIP, 0, 4, 82 ^ 86);
        x.tick(1);
        direction("cell 1 is the first", x, 0, 1, 0, 3);
        x = new CellSwitch(2);
        x.damage(0, Link.FLIP, 0, 4, 82 ^ 86);
        x.damage(0, Link.FLIP, 0, 5, 106 ^ x.header(0x00000156, 0, 0));
        x.tick(1);
        direction("48 octets pass, a wrong header, cell 2 is the first", x, 0, 1, 0, 2);
        // the octet ahead of an idle cell, and its 0, 0, 0, 1
        int ahead = 0;
        for (int octet = 0; octet < 256; octet++) {
            ahead = x.header(octet << 24, 0, 0) == 1 ? octet : ahead;
        }
        x = new CellSwitch(2);
        x.damage(0, Link.FLIP, 0, 4, 1);
        x.damage(0, Link.FLIP, 0, 52, 106 ^ ahead);
        x.tick(1);
        direction("found before cell 1, lost before cell 2, found at cell 3", x, 0, 1, 0, 1);
    }

    private static void otherChannelsAreLost() {
        CellSwitch x = Link.synced(2);
        // channel 1 of VPI 0, with its HEC: a cell that no end and no switch knows
        int octets = 0x11;
        int hec = x.header(1, 0, 0) ^ x.header(octets, 0, 0);
        for (int d = 0; d < 4; d++) {
            x.damage(d, Link.FLIP, 1, 3, 0x10);
            x.damage(d, Link.FLIP, 1, 4, hec);
        }
        x.tick(1);
        for (int d = 0; d < 4; d++) {
            direction("a channel of no call", x, d, 2, 0, 0, 39, 0, 0, 0, 1, 0, 0);
        }
        // VPI 1 and channel 0 is not idle; neither is VPI 1 and channel 5 a message
        int other = x.header(1, 0, 0) ^ x.header(0x00100001, 0, 0);
        int fifth = x.header(1, 0, 0) ^ x.header(0x00100053, 0, 0);
        for (int d = 0; d < 4; d++) {
            x.damage(d, Link.FLIP, 1, 1, 0x10);
            x.damage(d, Link.FLIP, 1, 4, other);
            x.damage(d, Link.FLIP, 2, 1, 0x10);
            x.damage(d, Link.FLIP, 2, 3, 0x52);
            x.damage(d, Link.FLIP, 2, 4, fifth);
        }
        x.tick(1);
        for (int d = 0; d < 4; d++) {
            direction("another VPI", x, d, 2, 0, 0, 43, 0, 0, 0, 3);
        }
        // channel 0 with other bits is idle: the four highest, TYPE and LOW
        int idle = x.header(1, 0, 0) ^ x.header(0x9000000E, 0, 0);
        x.damage(0, Link.FLIP, 0, 0, 0x90);
        x.damage(0, Link.FLIP, 0, 3, 0x0F);
        x.damage(0, Link.FLIP, 0, 4, idle);
        // a cell of channel 5 that is the last of a frame, of idle octets: SPOILT
        int message = x.header(1, 0, 0) ^ x.header(0x00000053, 0, 0);
        x.damage(0, Link.FLIP, 1, 3, 0x52);
        x.damage(0, Link.FLIP, 1, 4, message);
        x.tick(1);
        direction("idle, and spoilt", x, 0, 2, 0, 0, 47, 0, 0, 1, 3);
        fiveWithoutALastOne();
    }

    private static void fiveWithoutALastOne() {
        CellSwitch x = Link.synced(2);
        int part = x.header(1, 0, 0) ^ x.header(0x00000051, 0, 0);
        for (int round = 0; round < 5; round++) {
            x.damage(0, Link.FLIP, 0, 3, 0x50);
            x.damage(0, Link.FLIP, 0, 4, part);
            due.same("not spoilt before the fifth", x.direction(0, 6), 0);
            x.tick(1);
        }
        due.same("spoilt with the fifth", x.direction(0, 6), 1);
        x.call(0, 1, 1);
        x.tick(2);
        due.same("begun anew: a unit comes behind it", x.line(0, 0), 2);
        due.same("no other is spoilt", x.direction(0, 6), 1);
    }
}
