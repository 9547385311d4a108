/**
 * Units of any bytes on a link: frames that a call sends, whose cells come with channel 5. In an open switch the call of
 * end 1 has channel 5 (SETUP is changed on the link), so that all that end 1 sends comes to side 3 as units.
 */
final class Inject {
    static final int BEGIN = 1, BEGUN = 2, END = 3, ENDED = 4, RESET = 5, RESET_DONE = 6, DATA = 8, RECOVER = 9, POLL = 10,
        STATUS = 11, GAP = 12, RECOVERED = 15;
    static final int SETUP = 5, PROCEEDING = 2, CONNECT = 7, CONFIRM = 15, RELEASE = 77, COMPLETE = 90;

    private Inject() {
    }

    /**
     * Time 25, all is acknowledged, no POLL is due before 38: call 0 of end 0 to end 1, of rate 1, with channel 32 at end 0
     * and at the switch, with channel 5 and rate 255 at end 1. Side 3: S 2, A 2, MAY 10, P 1, PA 1, R 1, H 1.
     */
    static CellSwitch open() {
        CellSwitch x = Link.synced(2);
        x.call(0, 1, 1);
        Link.change(x, 3, 20, 18, 254, 29, 32 ^ 5);
        x.tick(15);
        return x;
    }

    /** The same of two ends without changes: channel 32 and rate 1 at both ends. */
    static CellSwitch quiet() {
        CellSwitch x = Link.connected(1);
        x.tick(5);
        return x;
    }

    /** The last word of a unit. */
    static int last(int kind, int n) {
        return kind << 24 | n;
    }

    /** A unit of such words comes to side 3 of an open switch with the next tick; four of them may. */
    static void unit(CellSwitch x, int... words) {
        unitOf(x, bytesOf(words));
    }

    static void unitOf(CellSwitch x, int... bytes) {
        put(x, bytes);
        x.send(1, 0);
    }

    /** DATA with a message. */
    static void data(CellSwitch x, int n, int... message) {
        unitOf(x, joined(message, bytesOf(last(DATA, n))));
    }

    /**
     * A frame of one cell that end from of two sends over its call 0 comes to the other end as a unit, with the second of
     * two ticks, the first of which is done here. No messages may wait there, or come then.
     */
    static void toEnd(CellSwitch x, int from, int... bytes) {
        put(x, bytes);
        x.send(from, 0);
        x.tick(1);
        toMessages(x, 2 * (1 - from) + 1, 0);
    }

    /** A message for an end, likewise. */
    static void dataToEnd(CellSwitch x, int from, int n, int... message) {
        toEnd(x, from, joined(message, bytesOf(last(DATA, n))));
    }

    /** Makes cell k of channel 32, the last of a frame, one of channel 5. */
    static void toMessages(CellSwitch x, int direction, int k) {
        int hec = x.header(0x202, 0, 0) ^ x.header(0x52, 0, 0);
        x.damage(direction, Link.FLIP, k, 2, 0x02);
        x.damage(direction, Link.FLIP, k, 3, 0x50);
        x.damage(direction, Link.FLIP, k, 4, hec);
    }

    /** A message of a type; the flag says that its sender made the reference. */
    static int[] message(int type, boolean bySender, int reference, int... elements) {
        int[] head = {9, 3, (bySender ? 0 : 128) + (reference >> 16), reference >> 8 & 255, reference & 255, type, 128,
            elements.length >> 8, elements.length & 255};
        return joined(head, elements);
    }

    static int[] element(int number, int... bytes) {
        return joined(new int[] {number, 128, 0, bytes.length}, bytes);
    }

    static int[] joined(int[]... rows) {
        int length = 0;
        for (int[] row : rows) {
            length += row.length;
        }
        int[] all = new int[length];
        int at = 0;
        for (int[] row : rows) {
            System.arraycopy(row, 0, all, at, row.length);
            at += row.length;
        }
        return all;
    }

    static int[] bytesOf(int... words) {
        int[] bytes = new int[4 * words.length];
        for (int i = 0; i < bytes.length; i++) {
            bytes[i] = words[i / 4] >> (24 - 8 * (i % 4)) & 255;
        }
        return bytes;
    }

    /** These bytes are put on an empty tape. */
    static void put(CellSwitch x, int... bytes) {
        for (int at = 0; at < bytes.length; at += 20) {
            int[] words = new int[5];
            for (int i = 0; i < 20 && at + i < bytes.length; i++) {
                words[i / 4] |= bytes[at + i] << (24 - 8 * (i % 4));
            }
            x.feed(words[0], words[1], words[2], words[3], words[4]);
        }
        if (bytes.length % 20 != 0) {
            x.end(bytes.length % 20);
        }
    }
}
