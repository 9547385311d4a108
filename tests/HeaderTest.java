import java.util.Random;

/** Promise 19 (header). */
public final class HeaderTest {
    public static void main(String[] args) {
        Expect due = new Expect("HeaderTest");
        CellSwitch x = new CellSwitch(2);
        due.same("the HEC of an idle cell", x.header(1, 0, 0), 82);
        due.same("h does not count for the HEC", x.header(1, 999, 0), 82);
        due.same("the HEC of 0", x.header(0, 0, 0), 0x55);
        Random random = new Random(19);
        for (int i = 0; i < 2000; i++) {
            int octets = random.nextInt();
            int hec = x.header(octets, 0, 0);
            due.same("HEC of " + octets, hec, hecOf(octets));
            int bit = random.nextInt(40);
            int spoilt = bit < 32 ? octets ^ 0x80000000 >>> bit : octets;
            int spoiltHec = bit < 32 ? hec : hec ^ 128 >>> (bit - 32);
            due.same("right", x.header(octets, hec, 1), 1);
            due.same("bit " + bit, x.header(spoilt, spoiltHec, 1), 2 + bit);
            due.same("any h", x.header(octets, i % 256, 1), searched(octets, i % 256));
        }
        int[] noOctets = {-1, 256, 82 + 256, Integer.MAX_VALUE, Integer.MIN_VALUE, 82 - 256};
        for (int h : noOctets) {
            due.same("no octet " + h, x.header(1, h, 1), 0);
        }
        due.bad("what 2", x.header(1, 82, 2));
        due.bad("what -1", x.header(1, 82, -1));
        due.end();
    }

    private static int searched(int octets, int h) {
        if (hecOf(octets) == h) {
            return 1;
        }
        for (int bit = 0; bit < 40; bit++) {
            int o = bit < 32 ? octets ^ 1 << 31 - bit : octets;
            int e = bit < 32 ? h : h ^ 1 << 39 - bit;
            if (hecOf(o) == e) {
                return 2 + bit;
            }
        }
        return 0;
    }

    /** By long division of the polynomial. */
    private static int hecOf(int octets) {
        long rest = (octets & 0xFFFFFFFFL) << 8;
        for (int bit = 39; bit >= 8; bit--) {
            if ((rest >> bit & 1) == 1) {
                rest ^= 0x107L << (bit - 8);
            }
        }
        return (int) rest ^ 0x55;
    }
}
