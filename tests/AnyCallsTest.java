import java.lang.management.ManagementFactory;
import java.util.Random;

/** Any calls with any arguments: each ends, none throws, the same calls answer the same, and little room is used. */
public final class AnyCallsTest {
    private static final Expect due = new Expect("AnyCallsTest");
    private static final int[] EDGES = {Integer.MIN_VALUE, -1001, -3, -2, -1, 0, 1, 2, 3, 4, 5, 7, 8, 20, 32, 40, 50, 52,
        53, 200, 255, 256, 999, 1000, Integer.MAX_VALUE};

    public static void main(String[] args) {
        for (int seed = 0; seed < 150; seed++) {
            String at = "run " + seed;
            long first = run(seed);
            due.same(at + ", once more", run(seed), first);
        }
        for (int seed = 0; seed < 60; seed++) {
            framesComeAsTheyWere(seed);
        }
        for (int seed = 0; seed < 60; seed++) {
            due.same("units " + seed + ", once more", anyUnits(seed), anyUnits(seed));
        }
        room();
        due.end();
    }

    /** Answers a sum over all answers of 512 calls. */
    private static long run(int seed) {
        Random random = new Random(seed);
        CellSwitch x = new CellSwitch(random.nextInt(7));
        long sum = 0;
        for (int i = 0; i < 512; i++) {
            int answer = anyCall(x, random);
            sum = sum * 31 + answer;
        }
        return sum;
    }

    private static int any(Random random, int below) {
        return random.nextInt(12) == 0 ? EDGES[random.nextInt(EDGES.length)] : random.nextInt(below);
    }

    private static int anyCall(CellSwitch x, Random r) {
        switch (r.nextInt(26)) {
            case 0: return x.feed(r.nextInt(), r.nextInt(), r.nextInt(), r.nextInt(), r.nextInt());
            case 1: return x.end(any(r, 21));
            case 2: return x.call(any(r, 4), any(r, 4), any(r, 6));
            case 3: return x.call(any(r, 2), any(r, 2), 1);
            case 4: return x.hang(any(r, 4), any(r, 10));
            case 5: return x.policy(any(r, 4), any(r, 3), any(r, 31));
            case 6: return x.send(any(r, 4), any(r, 5));
            case 7: return x.about(any(r, 4), any(r, 10), any(r, 7));
            case 8: return x.calls(any(r, 4));
            case 9: return x.received(any(r, 4), any(r, 21) - 1, any(r, 3));
            case 10: return x.byteOf(any(r, 4), any(r, 5), any(r, 201));
            case 11: return x.link(any(r, 4), any(r, 4), any(r, 40));
            case 12: return x.line(any(r, 8), any(r, 12));
            case 13: return x.reset(any(r, 8));
            case 14: return x.quit(any(r, 40));
            case 15: return x.damage(any(r, 8), any(r, 3), any(r, 40), any(r, 53), any(r, 256));
            case 16: return x.damage(any(r, 8), 1, any(r, 4), any(r, 5), any(r, 256));
            case 17: return x.direction(any(r, 8), any(r, 10));
            case 18: return x.header(r.nextInt(), any(r, 256), any(r, 2));
            case 19: return x.crc();
            case 20: return x.count(any(r, 4));
            default: return x.tick(any(r, 6));
        }
    }

    /** Whatever is lost or spoilt on the way, a frame that comes is one that was sent, whole. */
    private static void framesComeAsTheyWere(int seed) {
        Random random = new Random(seed);
        CellSwitch x = Link.connected(1 + random.nextInt(3));
        int sent = 0;
        for (int i = 0; i < 60; i++) {
            int length = 1 + random.nextInt(200);
            if (x.about(0, 0, 0) == 10 && x.about(0, 0, 6) < 4) {
                Link.tape(x, length, length);
                x.send(0, 0);
                sent++;
            }
            x.damage(random.nextInt(4), random.nextInt(3), random.nextInt(20), random.nextInt(53), 1 + random.nextInt(255));
            x.tick(1 + random.nextInt(3));
            checkFrames(x, seed);
        }
        due.isTrue("not more came than were sent", x.received(1, -1, 0) <= sent);
    }

    private static void checkFrames(CellSwitch x, int seed) {
        int came = Math.min(3, x.received(1, -1, 0));
        for (int i = 0; i < came; i++) {
            int length = x.received(1, i, 1);
            CellSwitch other = new CellSwitch(2);
            byte[] bytes = Link.tape(other, Math.max(1, Math.min(200, length)), length);
            boolean same = length == bytes.length;
            for (int k = 0; k < length && same; k++) {
                same = x.byteOf(1, i, k) == (bytes[k] & 255);
            }
            due.isTrue("run " + seed + ": frame of " + length, same);
        }
    }

    /** Units and messages of any bytes come to the switch and to end 0; answers a sum over what is seen then. */
    private static long anyUnits(int seed) {
        Random random = new Random(seed);
        CellSwitch x = seed % 2 == 0 ? Inject.open() : Inject.quiet();
        long sum = 0;
        for (int i = 0; i < 70; i++) {
            int[] unit = random.nextInt(3) == 0 ? anyWords(random) : anyData(random, x.line(seed % 2 == 0 ? 3 : 0, 6));
            if (seed % 2 == 0) {
                Inject.unitOf(x, unit);
                x.tick(1);
            } else {
                Inject.toEnd(x, 1, unit);
                x.tick(1);
            }
            x.hang(random.nextInt(2), random.nextInt(8));
            for (int what = 0; what < 12; what++) {
                sum = sum * 31 + x.line(what % 4, what) + x.direction(what % 4, what) + x.about(what % 2, 1 + what / 4, what % 7);
            }
        }
        return sum;
    }

    private static int[] anyWords(Random random) {
        int[] words = new int[1 + random.nextInt(4)];
        for (int i = 0; i < words.length; i++) {
            words[i] = random.nextInt(3) == 0 ? random.nextInt() : random.nextInt(13);
        }
        words[words.length - 1] = Inject.last(random.nextInt(17), random.nextInt(12));
        return Inject.bytesOf(words);
    }

    private static int[] anyData(Random random, int n) {
        int[] types = {Inject.SETUP, Inject.PROCEEDING, Inject.CONNECT, Inject.CONFIRM, Inject.RELEASE, Inject.COMPLETE};
        int[] numbers = {112, 89, 108, 90, 8};
        int[] elements = {};
        int count = random.nextInt(5);
        for (int i = 0; i < count; i++) {
            int number = random.nextInt(4) == 0 ? numbers[random.nextInt(5)] : numbers[i];
            int[] bytes = number == 90 ? new int[] {random.nextInt(2), random.nextInt(256)} : new int[] {random.nextInt(5)};
            elements = Inject.joined(elements, Inject.element(number, bytes));
        }
        int[] message = Inject.message(types[random.nextInt(6)], random.nextBoolean(), random.nextInt(4), elements);
        return Inject.joined(message, Inject.bytesOf(Inject.last(Inject.DATA, n)));
    }

    private static void room() {
        com.sun.management.ThreadMXBean bean = (com.sun.management.ThreadMXBean) ManagementFactory.getThreadMXBean();
        long id = Thread.currentThread().getId();
        busy();
        long before = bean.getThreadAllocatedBytes(id);
        busy();
        long used = bean.getThreadAllocatedBytes(id) - before;
        System.out.println("AnyCallsTest: 512 busy calls use " + used + " bytes");
        due.isTrue("room for 512 calls", used < 3_000_000);
    }

    /** Calls and frames at all ends; ticks alone make no objects. */
    private static void busy() {
        CellSwitch x = new CellSwitch(4);
        for (int i = 0; i < 128; i++) {
            x.call(i % 4, (i + 1) % 4, 1);
            x.feed(i, 1, 2, 3, 4);
            x.send(i % 4, x.calls(i % 4) - 1);
            x.tick(i % 2 == 0 ? 8 : 50);
        }
    }
}
