import java.io.ByteArrayOutputStream;

/** Promises 2 (feed), 3 (end) and 20 (crc). */
public final class TapeTest {
    public static void main(String[] args) {
        Expect due = new Expect("TapeTest");
        feedAndEnd(due);
        theOrderOfBytes(due);
        crcOfAllLengths(due);
        due.end();
    }

    private static void feedAndEnd(Expect due) {
        CellSwitch x = new CellSwitch(2);
        due.bad("end of an empty tape", x.end(5));
        for (int n = 20; n <= 200; n += 20) {
            due.same("feed", x.feed(1, 2, 3, 4, 5), n);
        }
        int crc = x.crc();
        due.same("feed above 200", x.feed(9, 9, 9, 9, 9), CellSwitch.FULL);
        due.same("the tape stays", x.crc(), crc);
        due.bad("end(-1)", x.end(-1));
        due.bad("end(21)", x.end(21));
        due.same("end(20)", x.end(20), 200);
        due.same("end(0)", x.end(0), 180);
        due.same("end(1)", x.end(1), 161);
        due.same("feed to 181", x.feed(1, 2, 3, 4, 5), 181);
        due.same("feed to 201", x.feed(1, 2, 3, 4, 5), CellSwitch.FULL);
        for (int n = 181; n >= 20; n -= 20) {
            x.end(0);
        }
        due.bad("end with one byte", x.end(0));
        due.same("feed behind one byte", x.feed(1, 2, 3, 4, 5), 21);
        due.same("end(0) of 21", x.end(0), 1);
    }

    private static void theOrderOfBytes(Expect due) {
        CellSwitch x = Link.connected(3);
        x.feed(0x01020304, 0x80FF7F00, 5, 6, 0xA1B2C3D4);
        x.send(0, 0);
        x.tick(2);
        int[] bytes = {1, 2, 3, 4, 0x80, 0xFF, 0x7F, 0, 0, 0, 0, 5, 0, 0, 0, 6, 0xA1, 0xB2, 0xC3, 0xD4};
        for (int k = 0; k < 20; k++) {
            due.same("byte " + k, x.byteOf(1, 0, k), bytes[k]);
        }
    }

    private static void crcOfAllLengths(Expect due) {
        for (int length = 1; length <= 200; length++) {
            CellSwitch x = new CellSwitch(2);
            byte[] bytes = Link.tape(x, length, length);
            due.same("crc of " + length, x.crc(), crcOf(bytes));
            due.same("the tape stays", x.crc(), crcOf(bytes));
        }
        CellSwitch longer = new CellSwitch(2);
        byte[] bytes = Link.tape(longer, 40, 40);
        due.same("crc of 40", longer.crc(), crcOf(bytes));
        longer.end(0);
        due.same("crc of 20 bytes of these", longer.crc(), crcOf(java.util.Arrays.copyOf(bytes, 20)));
        CellSwitch x = new CellSwitch(2);
        due.same("crc of nothing", x.crc(), 0);
        x.feed(0, 0, 0, 0, 0);
        x.end(0);
        due.same("crc of nothing again", x.crc(), 0);
    }

    /** All ones at first are four bytes of ones xored to the first of them; turned at last. */
    private static int crcOf(byte[] bytes) {
        ByteArrayOutputStream all = new ByteArrayOutputStream();
        all.write(bytes, 0, bytes.length);
        while ((all.size() + 8) % 48 != 0) {
            all.write(0);
        }
        all.write(0);
        all.write(0);
        all.write(bytes.length >> 8);
        all.write(bytes.length);
        byte[] row = all.toByteArray();
        int[] values = new int[row.length];
        for (int i = 0; i < row.length; i++) {
            values[i] = row[i] & 255 ^ (i < 4 ? 255 : 0);
        }
        return ~(int) Link.remainder(values);
    }
}
