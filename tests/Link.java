import java.util.Random;

/** What tests do with the links: switches that are in a known state, damages, frames. */
final class Link {
    static final int LOSE = 0, FLIP = 1, SLIP = 2;

    private Link() {
    }

    /** A switch at time 10: all receivers are SYNC. */
    static CellSwitch synced(int ends) {
        CellSwitch x = new CellSwitch(ends);
        x.tick(10);
        return x;
    }

    /** Two ends at time 20, call 0 of both active since 18, on channel 32 of both links. */
    static CellSwitch connected(int rate) {
        CellSwitch x = synced(2);
        x.call(0, 1, rate);
        x.tick(10);
        return x;
    }

    static void lose(CellSwitch x, int direction, int first, int cells) {
        for (int k = first; k < first + cells; k++) {
            x.damage(direction, LOSE, k, 0, 0);
        }
    }

    /** Changes bytes of a frame of one cell on the link, and its CRC, so that the frame is not spoilt. */
    static void change(CellSwitch x, int direction, int k, int... bytesAndMasks) {
        int[] error = new int[44];
        for (int i = 0; i + 1 < bytesAndMasks.length; i += 2) {
            error[bytesAndMasks[i]] ^= bytesAndMasks[i + 1];
            x.damage(direction, FLIP, k, 5 + bytesAndMasks[i], bytesAndMasks[i + 1]);
        }
        long rest = remainder(error);
        for (int i = 0; i < 4; i++) {
            int mask = (int) (rest >> (24 - 8 * i)) & 255;
            if (mask != 0) {
                x.damage(direction, FLIP, k, 5 + 44 + i, mask);
            }
        }
    }

    /** Changes the header of a message cell that is the last of its frame to that of a data cell of channel 32. */
    static void divert(CellSwitch x, int direction, int k) {
        int message = 0x52;
        int data = 0x202;
        x.damage(direction, FLIP, k, 2, 0x02);
        x.damage(direction, FLIP, k, 3, 0x50);
        x.damage(direction, FLIP, k, 4, x.header(message, 0, 0) ^ x.header(data, 0, 0));
    }

    /** The rest of the bytes, as a polynomial times x to the 32nd, by that of the CRC. */
    static long remainder(int[] bytes) {
        long rest = 0;
        for (int value : bytes) {
            for (int bit = 7; bit >= 0; bit--) {
                long out = (rest >> 31 & 1) ^ (value >> bit & 1);
                rest = rest << 1 & 0xFFFFFFFFL;
                if (out != 0) {
                    rest ^= 0x04C11DB7L;
                }
            }
        }
        return rest;
    }

    /** Puts so many bytes on an empty tape; they come from a seed. */
    static byte[] tape(CellSwitch x, int length, long seed) {
        byte[] bytes = new byte[(length + 19) / 20 * 20];
        new Random(seed).nextBytes(bytes);
        for (int at = 0; at < bytes.length; at += 20) {
            x.feed(word(bytes, at), word(bytes, at + 4), word(bytes, at + 8), word(bytes, at + 12),
                word(bytes, at + 16));
        }
        if (length % 20 != 0) {
            x.end(length % 20);
        }
        return java.util.Arrays.copyOf(bytes, length);
    }

    private static int word(byte[] bytes, int at) {
        return (bytes[at] & 255) << 24 | (bytes[at + 1] & 255) << 16 | (bytes[at + 2] & 255) << 8 | bytes[at + 3] & 255;
    }
}
