import java.util.Arrays;

/** The boundary cases that promises 1 to 21 name, each at the boundary and on both sides of it. */
public final class PromiseBoundsTest {
    private static final Expect due = new Expect("PromiseBoundsTest");
    private static final int LEAST = Integer.MIN_VALUE, MOST = Integer.MAX_VALUE;

    public static void main(String[] args) {
        promise1EndsAreTheNearest();
        promise1AnEmptyTape();
        promise1AllIdleAndHunting();
        promise1PoliciesAre0();
        promise2FullAbove200();
        promise2TheHighestFirst();
        promise3AnotherNumber();
        promise3FewerThanTwenty();
        promise4OneToFifty();
        promise5WrongEnds();
        promise5WrongRates();
        promise5EightThatAreNotOver();
        promise5FortyInAll();
        promise5TenMessagesWait();
        promise6EachState();
        promise6NoneSuch();
        promise7Kinds();
        promise7Ticks();
        promise8NoBytes();
        promise8NoneSuch();
        promise8NotActive();
        promise8FourWait();
        promise8FramesOf1And200Bytes();
        promise9NoneSuch();
        promise9What();
        promise10NoSuchEnd();
        promise11HowMany();
        promise11TwentyLatest();
        promise12BytesOfAFrame();
        promise13NoSuchLink();
        promise13ChannelsThatAreJoined();
        promise14NoneSuch();
        promise15EachState();
        promise16EachState();
        promise17NoneSuch();
        promise17Octets();
        promise17Cell999();
        promise17Eight();
        promise18NoneSuch();
        promise19Octets();
        promise19TheFirstAndTheLastBit();
        promise20Lengths();
        promise21AnotherNumber();
        due.end();
    }

    // ---- 1 to 4: the object, the tape, the time

    private static void promise1EndsAreTheNearest() {
        due.of("Promise 1, 'Ends (2 .. 4, others as the nearest)'");
        int[][] asked = {{LEAST, 2}, {-1, 2}, {0, 2}, {1, 2}, {2, 2}, {3, 3}, {4, 4}, {5, 4}, {6, 4}, {MOST, 4}};
        for (int[] ends : asked) {
            CellSwitch x = new CellSwitch(ends[0]);
            String of = " of " + ends[0];
            due.same("count(0)" + of, x.count(0), ends[1]);
            due.same("the last end" + of, x.calls(ends[1] - 1), 0);
            due.bad("the next end" + of, x.calls(ends[1]));
            due.same("the last side" + of, x.line(2 * ends[1] - 1, 0), 0);
            due.bad("the next side" + of, x.line(2 * ends[1], 0));
            due.same("the last direction" + of, x.direction(2 * ends[1] - 1, 0), 0);
            due.bad("the next direction" + of, x.direction(2 * ends[1], 0));
            due.same("the last link" + of, x.link(ends[1] - 1, 0, 0), 0);
            due.bad("the next link" + of, x.link(ends[1], 0, 0));
            x.tick(1);
            due.same("cells of a tick" + of, x.count(2), 8 * ends[1]);
        }
    }

    private static void promise1AnEmptyTape() {
        due.of("Promise 1, 'an empty tape'");
        CellSwitch x = new CellSwitch(2);
        due.same("crc", x.crc(), 0);
        due.bad("end(0)", x.end(0));
        due.same("feed", x.feed(1, 2, 3, 4, 5), 20);
    }

    private static void promise1AllIdleAndHunting() {
        due.of("Promise 1, 'all idle and hunting, .. time 0'");
        for (int ends = 2; ends <= 4; ends++) {
            CellSwitch x = new CellSwitch(ends);
            for (int side = 0; side < 2 * ends; side++) {
                due.line("new", x, side, 0, 0, 0, 0, 0, 0, 0, 0, 0, 0, 0, 0);
                due.direction("new", x, side, 0, 0, 0, 0, 0, 0, 0, 0, 0, 0);
            }
            for (int e = 0; e < ends; e++) {
                due.same("calls", x.calls(e), 0);
                due.same("received", x.received(e, -1, 0), 0);
                due.link("new", x, e, 0, 0, 0);
            }
            due.same("time", x.count(1), 0);
            due.same("cells", x.count(2), 0);
            due.same("idle cells", x.count(3), 0);
        }
    }

    private static void promise1PoliciesAre0() {
        due.of("Promise 1, 'policies 0'");
        for (int e = 0; e < 2; e++) {
            CellSwitch x = Link.synced(2);
            x.call(1 - e, e, 1);
            x.tick(6);
            due.call("ANSWERED at once", x, e, 0, 8);
        }
    }

    private static void promise2FullAbove200() {
        due.of("Promise 2, 'FULL: above 200'");
        CellSwitch x = new CellSwitch(2);
        for (int n = 20; n <= 200; n += 20) {
            due.same("feed to " + n, x.feed(n, n, n, n, n), n);
        }
        due.full("feed to 220", x.feed(1, 1, 1, 1, 1));
        due.full("and again", x.feed(1, 1, 1, 1, 1));
        due.same("nothing came behind it", x.end(20), 200);
        for (int n = 0; n <= 20; n++) {
            CellSwitch y = new CellSwitch(2);
            Link.tape(y, 160 + n, n);
            if (n == 0) {
                due.same("180 of 160", y.feed(1, 2, 3, 4, 5), 180);
            } else {
                due.same("feed to " + (180 + n), y.feed(1, 2, 3, 4, 5), 180 + n);
                int crc = y.crc();
                due.same("feed to " + (200 + n), y.feed(1, 2, 3, 4, 5), CellSwitch.FULL);
                due.same("the tape stays", y.crc(), crc);
            }
        }
    }

    private static void promise2TheHighestFirst() {
        due.of("Promise 2, 'the highest of each number first'");
        CellSwitch x = Inject.quiet();
        x.feed(LEAST, MOST, -1, 0, 0x01020304);
        x.send(0, 0);
        x.tick(2);
        int[] bytes = {128, 0, 0, 0, 127, 255, 255, 255, 255, 255, 255, 255, 0, 0, 0, 0, 1, 2, 3, 4};
        for (int k = 0; k < 20; k++) {
            due.same("byte " + k, x.byteOf(1, 0, k), bytes[k]);
        }
    }

    private static void promise3AnotherNumber() {
        due.of("Promise 3, 'the first n (0 .. 20) stay'");
        int[] wrong = {LEAST, -20, -1, 21, 22, 40, MOST};
        CellSwitch x = new CellSwitch(2);
        Link.tape(x, 60, 1);
        for (int n : wrong) {
            due.bad("end(" + n + ")", x.end(n));
        }
        due.same("the tape stays: end(20)", x.end(20), 60);
        for (int n = 0; n <= 20; n++) {
            CellSwitch y = new CellSwitch(2);
            byte[] bytes = Link.tape(y, 40, 2);
            due.same("end(" + n + ") of 40", y.end(n), 20 + n);
            CellSwitch z = new CellSwitch(2);
            put(z, Arrays.copyOf(bytes, 20 + n));
            due.same("the first ones stay", y.crc(), z.crc());
        }
    }

    private static void put(CellSwitch x, byte[] bytes) {
        int[] row = new int[bytes.length];
        for (int i = 0; i < row.length; i++) {
            row[i] = bytes[i] & 255;
        }
        Inject.put(x, row);
    }

    private static void promise3FewerThanTwenty() {
        due.of("Promise 3, 'fewer than twenty are there'");
        for (int length = 0; length <= 22; length++) {
            CellSwitch x = new CellSwitch(2);
            x.feed(1, 2, 3, 4, 5);
            if (length < 20) {
                x.end(length);
            } else {
                x.feed(1, 2, 3, 4, 5);
                x.end(length - 20);
            }
            due.same("end(3) of " + length, x.end(3), length < 20 ? CellSwitch.BAD : length - 17);
        }
    }

    private static void promise4OneToFifty() {
        due.of("Promise 4, 'n ticks (1 .. 50)'");
        CellSwitch x = new CellSwitch(2);
        int[] wrong = {LEAST, -50, -1, 0, 51, 52, MOST};
        for (int n : wrong) {
            due.bad("tick(" + n + ")", x.tick(n));
            due.same("the time stays", x.count(1), 0);
            due.same("no cell is put on a link", x.count(2), 0);
        }
        due.same("tick(1)", x.tick(1), 1);
        due.same("tick(2)", x.tick(2), 3);
        due.same("tick(49)", x.tick(49), 52);
        due.same("tick(50)", x.tick(50), 102);
        due.bad("tick(51)", x.tick(51));
        due.same("count", x.count(1), 102);
        due.same("cells", x.count(2), 102 * 16);
    }

    // ---- 5 to 10: calls of ends

    private static void promise5WrongEnds() {
        due.of("Promise 5, 'BAD: no such ends, the same'");
        for (int ends = 2; ends <= 4; ends++) {
            CellSwitch x = new CellSwitch(ends);
            int[] wrong = {LEAST, -1, ends, ends + 1, MOST};
            for (int e : wrong) {
                due.bad("from " + e, x.call(e, 0, 1));
                due.bad("to " + e, x.call(0, e, 1));
                due.bad("both " + e, x.call(e, e, 1));
            }
            for (int e = 0; e < ends; e++) {
                due.bad("the same " + e, x.call(e, e, 1));
            }
            due.same("none was made", x.calls(0), 0);
            due.same("from 0 to the last", x.call(0, ends - 1, 1), 0);
            due.same("from the last to 0", x.call(ends - 1, 0, 1), 0);
        }
    }

    private static void promise5WrongRates() {
        due.of("Promise 5, 'the rate is not 1 .. 5'");
        CellSwitch x = Link.synced(2);
        int[] wrong = {LEAST, -1, 0, 6, 7, MOST};
        for (int rate : wrong) {
            due.bad("rate " + rate, x.call(0, 1, rate));
        }
        due.same("none was made", x.calls(0), 0);
        due.same("no message waits", x.line(0, 8), 0);
        for (int rate = 1; rate <= 5; rate++) {
            due.same("rate " + rate, x.call(0, 1, rate), rate - 1);
            due.same("its rate", x.about(0, rate - 1, 3), rate);
        }
        due.of("Promise 5, 'A call with 4, 5 is refused by the switch'");
        for (int rate = 1; rate <= 5; rate++) {
            CellSwitch y = Link.synced(2);
            y.call(0, 1, rate);
            y.tick(8);
            due.same("how it is with rate " + rate, y.about(0, 0, 0), rate < 4 ? 10 : 0);
            due.same("its cause with rate " + rate, y.about(0, 0, 5), rate < 4 ? 0 : 96);
        }
    }

    private static void promise5EightThatAreNotOver() {
        due.of("Promise 5, 'FULL: 8 that are not over'");
        CellSwitch x = Link.synced(2);
        x.call(1, 0, 1);
        x.tick(10);
        // a call that the end got counts, too; a row of 10 has place for 7 SETUPs
        for (int i = 1; i <= 7; i++) {
            due.same("call with " + i + " not over", x.call(0, 1, 5), i);
        }
        due.full("with 8", x.call(0, 1, 5));
        due.bad("BAD before FULL", x.call(0, 1, 6));
        due.same("none was made", x.calls(0), 8);
        due.same("hang", x.hang(0, 0), 1);
        due.full("one that is RELEASING is not over", x.call(0, 1, 5));
        x.tick(1);
        due.full("still RELEASING", x.call(0, 1, 5));
        x.tick(3);
        due.same("all are over", x.call(0, 1, 5), 8);
        due.call("no number and no reference was used up", x, 0, 8, 1, 8);
    }

    private static void promise5FortyInAll() {
        due.of("Promise 5, '40 in all'");
        CellSwitch x = Link.synced(2);
        x.call(1, 0, 5);
        x.call(1, 0, 1);
        x.tick(10);
        due.same("it got one", x.calls(0), 1);
        for (int i = 1; i < 40; i++) {
            due.same("call " + i, x.call(0, 1, 5), i);
            x.tick(3);
        }
        x.tick(10);
        due.call("the last one is over", x, 0, 39, 0, 39, -2, 5, 1, 96);
        due.same("one is not over", x.about(0, 0, 0), 10);
        due.full("one more", x.call(0, 1, 1));
        due.same("forty", x.calls(0), 40);
        due.same("of the other end, which had two", x.call(1, 0, 5), 2);
    }

    private static void promise5TenMessagesWait() {
        due.of("Promise 5, 'or 10 messages wait'");
        CellSwitch x = Link.synced(2);
        for (int i = 0; i < 4; i++) {
            x.call(0, 1, 1);
            x.hang(0, i);
        }
        due.same("8 wait, a call makes 9", x.call(0, 1, 1), 4);
        due.same("9 wait, a call makes 10", x.call(0, 1, 1), 5);
        due.same("10", x.line(0, 8), 10);
        due.full("10 wait, 6 are not over", x.call(0, 1, 1));
        due.same("10", x.line(0, 8), 10);
        due.same("six calls", x.calls(0), 6);
        x.tick(3);
        due.same("two wait", x.line(0, 8), 2);
        due.same("a call", x.call(0, 1, 1), 6);
        due.call("with the next reference", x, 0, 6, 1, 7);
    }

    private static void promise6EachState() {
        due.of("Promise 6, 'RELEASED with cause 16: 1; 0: it is over or RELEASING'");
        // ticks behind call(0, 1, 1) at time 10, the end, how its call 0 is then
        int[][] states = {{0, 0, 1}, {4, 0, 3}, {6, 1, 6}, {10, 1, 8}, {12, 0, 10}, {12, 1, 10}};
        for (int[] state : states) {
            CellSwitch x = Link.synced(2);
            x.policy(1, 1, 4);
            x.call(0, 1, 1);
            if (state[0] > 0) {
                x.tick(state[0]);
            }
            due.same("how it is", x.about(state[1], 0, 0), state[2]);
            int waits = x.line(state[1], 8);
            due.same("hang of " + state[2], x.hang(state[1], 0), 1);
            due.same("it is RELEASING", x.about(state[1], 0, 0), 11);
            due.same("its cause", x.about(state[1], 0, 5), 16);
            due.same("RELEASE waits", x.line(state[1], 8), waits + 1);
            due.same("hang of RELEASING", x.hang(state[1], 0), 0);
            due.same("no other RELEASE waits", x.line(state[1], 8), waits + 1);
            x.tick(20);
            due.same("it is over", x.about(state[1], 0, 0), 0);
            due.same("hang of one that is over", x.hang(state[1], 0), 0);
            due.same("its cause stays", x.about(state[1], 0, 5), 16);
        }
    }

    private static void promise6NoneSuch() {
        due.of("Promise 6, 'BAD: none such'");
        CellSwitch x = Link.connected(1);
        due.bad("a call of the end before", x.hang(-1, 0));
        due.bad("a call of the end behind", x.hang(2, 0));
        int[] wrong = {LEAST, -1, 1, 40, MOST};
        for (int call : wrong) {
            due.bad("call " + call, x.hang(0, call));
        }
        due.same("call 0", x.hang(0, 0), 1);
        due.bad("none at all", new CellSwitch(2).hang(0, 0));
    }

    private static void promise7Kinds() {
        due.of("Promise 7, 'POLICY, 0 .. 2'");
        CellSwitch x = Link.synced(2);
        int[] wrong = {LEAST, -1, 3, 4, MOST};
        due.same("kind 2", x.policy(1, 2, 1), 1);
        for (int kind : wrong) {
            due.bad("kind " + kind, x.policy(1, kind, 1));
        }
        due.bad("the end before", x.policy(-1, 0, 1));
        due.bad("the end behind", x.policy(2, 0, 1));
        x.call(0, 1, 1);
        x.tick(8);
        due.call("it stays as it was", x, 1, 0, 0, 1001, 32, 1, 0, 17);
        due.same("kind 0", x.policy(1, 0, 1), 1);
        x.call(0, 1, 1);
        x.tick(2);
        due.call("ANSWERED", x, 1, 1, 8);
        due.same("kind 1", x.policy(1, 1, 1), 1);
        x.call(0, 1, 1);
        x.tick(2);
        due.call("PRESENT", x, 1, 2, 6);
    }

    private static void promise7Ticks() {
        due.of("Promise 7, 'with ticks 1 .. 30 (of 1)'");
        CellSwitch x = Link.synced(2);
        int[] wrong = {LEAST, -1, 0, 31, 32, MOST};
        for (int ticks : wrong) {
            due.bad("1 with " + ticks, x.policy(1, 1, ticks));
            due.same("0 with " + ticks, x.policy(1, 0, ticks), 1);
            due.same("2 with " + ticks, x.policy(1, 2, ticks), 1);
        }
        int[] right = {1, 2, 29, 30};
        for (int ticks : right) {
            CellSwitch y = Link.synced(2);
            due.same("1 with " + ticks, y.policy(1, 1, ticks), 1);
            due.bad("a wrong one does not change it", y.policy(1, 1, 31));
            y.call(0, 1, 1);
            y.tick(6);
            if (ticks > 1) {
                y.tick(ticks - 1);
            }
            due.call("before " + ticks, y, 1, 0, 6);
            y.tick(1);
            due.call(ticks + " behind", y, 1, 0, 8);
        }
    }

    private static void promise8NoBytes() {
        due.of("Promise 8, 'BAD: .. no bytes'");
        CellSwitch x = Link.connected(1);
        due.bad("an empty tape", x.send(0, 0));
        x.feed(1, 2, 3, 4, 5);
        x.end(0);
        due.bad("an empty tape again", x.send(0, 0));
        x.feed(1, 2, 3, 4, 5);
        x.end(1);
        due.same("one byte", x.send(0, 0), 1);
        due.bad("it is empty then", x.send(0, 0));
        x.hang(0, 0);
        due.bad("BAD before NONE", x.send(0, 0));
    }

    private static void promise8NoneSuch() {
        due.of("Promise 8, 'BAD: none such'");
        CellSwitch x = Link.connected(1);
        Link.tape(x, 7, 1);
        int crc = x.crc();
        int[] ends = {LEAST, -1, 2, MOST};
        for (int e : ends) {
            due.bad("end " + e, x.send(e, 0));
        }
        int[] calls = {LEAST, -1, 1, 40, MOST};
        for (int call : calls) {
            due.bad("call " + call, x.send(0, call));
        }
        due.same("the tape stays", x.crc(), crc);
        due.same("call 0", x.send(1, 0), 1);
    }

    private static void promise8NotActive() {
        due.of("Promise 8, 'NONE: not ACTIVE'");
        int[][] states = {{0, 0, 1}, {4, 0, 3}, {6, 1, 6}, {10, 1, 8}};
        for (int[] state : states) {
            CellSwitch x = Link.synced(2);
            x.policy(1, 1, 4);
            x.call(0, 1, 1);
            if (state[0] > 0) {
                x.tick(state[0]);
            }
            Link.tape(x, 9, 1);
            int crc = x.crc();
            due.same("how it is", x.about(state[1], 0, 0), state[2]);
            due.none("send of " + state[2], x.send(state[1], 0));
            due.same("the tape stays", x.crc(), crc);
        }
        CellSwitch x = Link.connected(1);
        Link.tape(x, 9, 1);
        x.hang(0, 0);
        due.none("send of RELEASING", x.send(0, 0));
        x.tick(2);
        due.same("over", x.about(0, 0, 0), 0);
        due.none("send of one that is over", x.send(0, 0));
        due.same("end(20) is BAD: nine bytes", x.end(20), CellSwitch.BAD);
        due.isTrue("the tape stays", x.crc() != 0);
    }

    private static void promise8FourWait() {
        due.of("Promise 8, 'FULL: 4 wait'");
        CellSwitch x = Link.connected(1);
        for (int n = 1; n <= 4; n++) {
            Link.tape(x, 10 + n, n);
            due.same("frame " + n, x.send(0, 0), n);
            due.same("the tape is empty", x.crc(), 0);
            due.same("they wait", x.about(0, 0, 6), n);
        }
        Link.tape(x, 15, 5);
        int crc = x.crc();
        due.full("a fifth", x.send(0, 0));
        due.same("the tape stays", x.crc(), crc);
        due.same("four wait", x.about(0, 0, 6), 4);
        due.same("of the other end", x.send(1, 0), 1);
        x.tick(1);
        due.same("three wait", x.about(0, 0, 6), 3);
        Link.tape(x, 16, 6);
        due.same("one more", x.send(0, 0), 4);
        x.tick(10);
        due.same("all came, the last is the sixth", x.received(1, 0, 1), 16);
        due.same("five came", x.received(1, -1, 0), 5);
    }

    private static void promise8FramesOf1And200Bytes() {
        due.of("Promise 8, 'The tape (1 .. 200 bytes)'");
        int[] lengths = {1, 2, 199, 200};
        for (int length : lengths) {
            CellSwitch x = Link.connected(3);
            byte[] bytes = Link.tape(x, length, length);
            due.same("send of " + length, x.send(0, 0), 1);
            x.tick(5);
            due.same("bytes", x.received(1, 0, 1), length);
            due.same("the first", x.byteOf(1, 0, 0), bytes[0] & 255);
            due.same("the last", x.byteOf(1, 0, length - 1), bytes[length - 1] & 255);
        }
    }

    private static void promise9NoneSuch() {
        due.of("Promise 9, 'BAD: none such'");
        CellSwitch x = Link.connected(1);
        int[] ends = {LEAST, -1, 2, MOST};
        for (int e : ends) {
            due.bad("end " + e, x.about(e, 0, 0));
        }
        int[] calls = {LEAST, -1, 1, 2, MOST};
        for (int call : calls) {
            due.bad("call " + call, x.about(0, call, 0));
        }
        int[] whats = {LEAST, -1, 7, 8, MOST};
        for (int what : whats) {
            due.bad("what " + what, x.about(0, 0, what));
        }
        due.bad("none at all", new CellSwitch(2).about(0, 0, 0));
    }

    private static void promise9What() {
        due.of("Promise 9, what 0 .. 6");
        CellSwitch x = Link.synced(3);
        x.call(0, 2, 3);
        due.call("its channel is not known", x, 0, 0, 1, 1, -2, 3, 2, 0, 0);
        x.tick(10);
        Link.tape(x, 200, 1);
        x.send(2, 0);
        due.call("of the end that calls", x, 0, 0, 10, 1, 32, 3, 2, 0, 0);
        due.call("of the end called: 1,000 more", x, 2, 0, 10, 1001, 32, 3, 0, 0, 1);
        x.hang(2, 0);
        due.call("its cause, no frame waits", x, 2, 0, 11, 1001, 32, 3, 0, 16, 0);
        x.tick(5);
        due.call("it is over", x, 0, 0, 0, 1, 32, 3, 2, 16, 0);
        x.call(2, 0, 1);
        x.tick(10);
        due.call("references of another side are others", x, 2, 1, 10, 1, 32, 1, 0, 0, 0);
        due.call("made by the other side", x, 0, 1, 10, 1001, 32, 1, 2, 0, 0);
    }

    private static void promise10NoSuchEnd() {
        due.of("Promise 10, 'BAD: no such end'");
        for (int ends = 2; ends <= 4; ends++) {
            CellSwitch x = new CellSwitch(ends);
            due.bad("before", x.calls(-1));
            due.same("the first", x.calls(0), 0);
            due.same("the last", x.calls(ends - 1), 0);
            due.bad("behind", x.calls(ends));
            due.bad("the least", x.calls(LEAST));
            due.bad("the most", x.calls(MOST));
        }
        CellSwitch x = Link.connected(1);
        due.same("that it made", x.calls(0), 1);
        due.same("that it got", x.calls(1), 1);
    }

    // ---- 11 and 12: what was received

    private static void promise11HowMany() {
        due.of("Promise 11, 'How many frames an end RECEIVED (i = - 1, what 0)'");
        CellSwitch x = Inject.quiet();
        due.same("none", x.received(1, -1, 0), 0);
        due.bad("no frame is the last", x.received(1, 0, 0));
        due.bad("what 1 of -1", x.received(1, -1, 1));
        due.bad("what -1 of -1", x.received(1, -1, -1));
        due.bad("-2", x.received(1, -2, 0));
        due.bad("the least", x.received(1, LEAST, 0));
        int[] ends = {LEAST, -1, 2, MOST};
        for (int e : ends) {
            due.bad("end " + e, x.received(e, -1, 0));
            due.bad("end " + e, x.received(e, 0, 0));
        }
        Link.tape(x, 33, 1);
        x.send(0, 0);
        x.tick(2);
        due.same("one", x.received(1, -1, 0), 1);
        due.same("its call", x.received(1, 0, 0), 0);
        due.same("its bytes", x.received(1, 0, 1), 33);
        due.same("its time", x.received(1, 0, 2), 27);
        due.bad("what 3", x.received(1, 0, 3));
        due.bad("what -1", x.received(1, 0, -1));
        due.bad("the second", x.received(1, 1, 0));
        due.bad("the most", x.received(1, MOST, 0));
        due.same("of the other end", x.received(0, -1, 0), 0);
    }

    private static void promise11TwentyLatest() {
        due.of("Promise 11 and term 5, 'the 20 latest are kept'");
        CellSwitch x = Link.connected(3);
        for (int n = 1; n <= 22; n++) {
            Link.tape(x, n, n);
            x.send(0, 0);
            x.tick(2);
            due.same("all count", x.received(1, -1, 0), n);
            due.same("the last", x.received(1, 0, 1), n);
            due.same("the 20th latest", x.received(1, 19, 1), n < 20 ? CellSwitch.BAD : n - 19);
            due.same("its first byte", x.byteOf(1, 19, 0) < 0 ? 1 : 0, n < 20 ? 1 : 0);
            due.bad("the 21st latest", x.received(1, 20, 1));
            due.bad("its first byte", x.byteOf(1, 20, 0));
            due.same("the first of all that are kept", x.received(1, Math.min(n, 20) - 1, 1), Math.max(1, n - 19));
        }
    }

    private static void promise12BytesOfAFrame() {
        due.of("Promise 12, 'BAD: none such'");
        CellSwitch x = Inject.quiet();
        due.bad("no frame", x.byteOf(1, 0, 0));
        byte[] bytes = Link.tape(x, 3, 1);
        x.send(0, 0);
        x.tick(2);
        for (int k = -2; k <= 5; k++) {
            due.same("byte " + k, x.byteOf(1, 0, k), k < 0 || k > 2 ? CellSwitch.BAD : bytes[k] & 255);
        }
        due.bad("the least", x.byteOf(1, 0, LEAST));
        due.bad("the most", x.byteOf(1, 0, MOST));
        int[] frames = {LEAST, -1, 1, 2, MOST};
        for (int i : frames) {
            due.bad("frame " + i, x.byteOf(1, i, 0));
        }
        int[] ends = {LEAST, -1, 0, 2, MOST};
        for (int e : ends) {
            due.bad("end " + e, x.byteOf(e, 0, 0));
        }
    }

    // ---- 13: the switch

    private static void promise13NoSuchLink() {
        due.of("Promise 13, 'BAD: no such link, what'");
        CellSwitch x = Link.connected(2);
        int[] links = {LEAST, -1, 2, MOST};
        int[] whats = {LEAST, -1, 4, 5, MOST};
        for (int e : links) {
            for (int what = 0; what < 4; what++) {
                due.bad("link " + e, x.link(e, what, 32));
            }
        }
        for (int what : whats) {
            due.bad("what " + what, x.link(0, what, 32));
        }
        due.same("v does not count", x.link(0, 0, LEAST), 1);
        due.same("v does not count", x.link(0, 1, MOST), 2);
        due.same("v does not count", x.link(0, 2, -7), 1);
    }

    private static void promise13ChannelsThatAreJoined() {
        due.of("Promise 13, 'the channel joined with channel v there (.. its link times 1,000 more; NONE)'");
        CellSwitch x = Link.synced(4);
        x.call(3, 0, 1);
        x.call(1, 3, 1);
        x.tick(20);
        int[] none = {LEAST, -2, -1, 0, 5, 31, 34, 1032, MOST};
        for (int v : none) {
            due.none("channel " + v, x.link(3, 3, v));
        }
        // the SETUP of end 1 comes ahead of that of end 3
        due.same("32 of link 3", x.link(3, 3, 32), 1032);
        due.same("33 of link 3", x.link(3, 3, 33), 32);
        due.same("32 of link 0", x.link(0, 3, 32), 3033);
        due.same("32 of link 1", x.link(1, 3, 32), 3032);
        due.none("33 of link 1", x.link(1, 3, 33));
        due.none("32 of link 2", x.link(2, 3, 32));
        x.hang(1, 0);
        x.tick(1);
        due.none("one of both is over", x.link(3, 3, 32));
        due.same("the other one stays", x.link(3, 3, 33), 32);
    }

    // ---- 14 to 16: lines

    private static void promise14NoneSuch() {
        due.of("Promise 14, 'BAD: none such'");
        for (int ends = 2; ends <= 4; ends++) {
            CellSwitch x = new CellSwitch(ends);
            int[] sides = {LEAST, -1, 2 * ends, MOST};
            int[] whats = {LEAST, -1, 12, 13, MOST};
            for (int side : sides) {
                due.bad("side " + side, x.line(side, 0));
                due.bad("side " + side, x.line(side, 11));
            }
            for (int what : whats) {
                due.bad("what " + what, x.line(0, what));
            }
            for (int what = 0; what < 12; what++) {
                due.same("what " + what, x.line(0, what), 0);
                due.same("what " + what, x.line(2 * ends - 1, what), 0);
            }
        }
    }

    /** Side 0 in each of its five states. */
    private static CellSwitch lineIn(int state) {
        CellSwitch x = state < 2 ? Link.synced(2) : Inject.quiet();
        if (state == 1) {
            x.call(0, 1, 1);
            x.tick(1);
        } else if (state == 3) {
            x.reset(0);
        } else if (state == 4) {
            x.quit(0);
        }
        due.same("how it is", x.line(0, 0), state);
        return x;
    }

    private static void promise15EachState() {
        due.of("Promise 15, 'A READY side sends RESET: 1 .. 0: not READY. BAD: none such'");
        for (int state = 0; state <= 4; state++) {
            CellSwitch x = lineIn(state);
            int waits = x.direction(0, 8);
            due.same("reset in " + state, x.reset(0), state == 2 ? 1 : 0);
            due.same("then", x.line(0, 0), state == 2 ? 3 : state);
            due.same("RESET", x.direction(0, 8), state == 2 ? waits + 1 : waits);
        }
        CellSwitch x = Inject.quiet();
        int[] wrong = {LEAST, -1, 4, MOST};
        for (int side : wrong) {
            due.bad("side " + side, x.reset(side));
        }
        for (int side = 0; side < 4; side++) {
            due.same("side " + side, x.reset(side), 1);
        }
    }

    private static void promise16EachState() {
        due.of("Promise 16, 'A side that is READY sends END 0 .. 0: not READY. BAD: none such'");
        for (int state = 0; state <= 4; state++) {
            CellSwitch x = lineIn(state);
            boolean called = x.calls(0) > 0;
            int how = called ? x.about(0, 0, 0) : 0;
            int waits = x.direction(0, 8);
            due.same("quit in " + state, x.quit(0), state == 2 ? 1 : 0);
            due.same("then", x.line(0, 0), state == 2 ? 4 : state);
            due.same("END", x.direction(0, 8), state == 2 ? waits + 1 : waits);
            if (called) {
                due.same("its call", x.about(0, 0, 0), state == 2 ? 0 : how);
            }
        }
        CellSwitch x = Inject.quiet();
        int[] wrong = {LEAST, -1, 4, MOST};
        for (int side : wrong) {
            due.bad("side " + side, x.quit(side));
        }
        for (int side = 3; side >= 0; side--) {
            due.same("side " + side, x.quit(side), 1);
            due.same("it is not CUT", x.line(side, 11), 0);
        }
        due.of("Promise 16, 'what waits gone, its calls as of one that is CUT'");
        CellSwitch y = Inject.quiet();
        y.call(0, 1, 1);
        due.same("SETUP waits", y.line(0, 8), 1);
        due.same("quit of the end", y.quit(0), 1);
        due.same("gone", y.line(0, 8), 0);
        due.call("over", y, 0, 0, 0, 1, 32, 1, 1, 41);
        due.call("over", y, 0, 1, 0, 2, -2, 1, 1, 41);
        CellSwitch z = Inject.quiet();
        z.quit(3);
        due.link("the switch: over at this side", z, 1, 0, 0, 0);
        due.link("RELEASED at the other one", z, 0, 1, 1, 0);
        due.same("by RELEASE, which waits", z.line(2, 8), 1);
        z.tick(1);
        due.call("with 41", z, 0, 0, 0, 1, 32, 1, 1, 41);
    }

    // ---- 17 to 21: links

    private static void promise17NoneSuch() {
        due.of("Promise 17, 'BAD: none such'");
        for (int ends = 2; ends <= 4; ends++) {
            CellSwitch x = new CellSwitch(ends);
            int[] directions = {LEAST, -1, 2 * ends, MOST};
            for (int d : directions) {
                for (int kind = 0; kind < 3; kind++) {
                    due.bad("direction " + d, x.damage(d, kind, 0, 0, 1));
                }
            }
            due.same("the last direction", x.damage(2 * ends - 1, 0, 0, 0, 1), 1);
        }
        CellSwitch x = new CellSwitch(2);
        int[] kinds = {LEAST, -1, 3, 4, MOST};
        for (int kind : kinds) {
            due.bad("kind " + kind, x.damage(0, kind, 0, 0, 1));
        }
        int[] cells = {LEAST, -1, 1000, 1001, MOST};
        for (int k : cells) {
            for (int kind = 0; kind < 3; kind++) {
                due.bad("cell " + k, x.damage(0, kind, k, 0, 1));
            }
        }
        due.same("none is told", x.damage(0, 0, 0, 0, 0), 1);
        due.same("cell 999", x.damage(0, 2, 999, 0, 0), 2);
    }

    private static void promise17Octets() {
        due.of("Promise 17, 'FLIP (octet 0 .. 52, mask 1 .. 255)'");
        CellSwitch x = new CellSwitch(2);
        int[] octets = {LEAST, -1, 53, 54, MOST};
        for (int octet : octets) {
            due.bad("octet " + octet, x.damage(0, 1, 0, octet, 1));
        }
        int[] masks = {LEAST, -1, 0, 256, 257, MOST};
        for (int mask : masks) {
            due.bad("mask " + mask, x.damage(0, 1, 0, 0, mask));
        }
        due.same("octet 0, mask 1", x.damage(0, 1, 0, 0, 1), 1);
        due.same("octet 52, mask 255", x.damage(0, 1, 0, 52, 255), 2);
        for (int octet : octets) {
            CellSwitch y = new CellSwitch(2);
            due.same("LOSE has no octet", y.damage(0, 0, 0, octet, 0), 1);
            due.same("SLIP has no mask", y.damage(0, 2, 0, octet, 256), 2);
        }
        // the first and the last octet of a cell of data: its header is put right, its last octet is one of the CRC
        CellSwitch z = Inject.quiet();
        Link.tape(z, 40, 1);
        z.send(0, 0);
        z.damage(0, 1, 0, 0, 128);
        z.tick(2);
        due.same("octet 0 is put right", z.received(1, -1, 0), 1);
        due.same("octet 0 is put right", z.direction(0, 5), 1);
        Link.tape(z, 40, 1);
        z.send(0, 0);
        z.damage(0, 1, 0, 52, 1);
        z.tick(2);
        due.same("octet 52 spoils the frame", z.received(1, -1, 0), 1);
        due.same("octet 52 spoils the frame", z.direction(3, 6), 1);
    }

    private static void promise17Cell999() {
        due.of("Promise 17, 'of its k-th cell from now on (0 .. 999)'");
        int[] cells = {0, 3, 4, 998, 999};
        for (int k : cells) {
            CellSwitch x = Link.synced(2);
            x.damage(0, 0, k, 0, 0);
            int taken = x.direction(0, 3);
            int ticks = 0;
            for (int t = 0; t < k / 4; t++) {
                x.tick(1);
                ticks++;
            }
            due.same("cell " + k + " is not yet lost", x.direction(0, 3) - taken, 4 * ticks);
            x.tick(1);
            due.same("cell " + k + " is lost", x.direction(0, 3) - taken, 4 * ticks + 3);
            x.tick(1);
            due.same("no other", x.direction(0, 3) - taken, 4 * ticks + 7);
        }
    }

    private static void promise17Eight() {
        due.of("Promise 17, 'how many are told there .. FULL: 8'");
        CellSwitch x = Link.synced(2);
        for (int n = 1; n <= 8; n++) {
            due.same("damage " + n, x.damage(2, n % 3, n < 8 ? 10 : 0, 52, 1), n);
        }
        for (int kind = 0; kind < 3; kind++) {
            due.full("a ninth", x.damage(2, kind, 0, 0, 1));
        }
        due.bad("BAD before FULL", x.damage(2, 1, 0, 0, 0));
        due.same("of another direction", x.damage(3, 0, 0, 0, 0), 1);
        x.tick(1);
        due.same("one is used up", x.damage(2, 0, 500, 0, 0), 8);
        due.full("a ninth", x.damage(2, 0, 0, 0, 0));
        x.tick(2);
        due.same("seven are used up", x.damage(2, 0, 500, 0, 0), 2);
    }

    private static void promise18NoneSuch() {
        due.of("Promise 18, 'BAD: none such'");
        for (int ends = 2; ends <= 4; ends++) {
            CellSwitch x = Link.synced(ends);
            int[] directions = {LEAST, -1, 2 * ends, MOST};
            for (int d : directions) {
                due.bad("direction " + d, x.direction(d, 0));
                due.bad("direction " + d, x.direction(d, 9));
            }
            int[] whats = {LEAST, -1, 10, 11, MOST};
            for (int what : whats) {
                due.bad("what " + what, x.direction(0, what));
            }
            for (int d = 0; d < 2 * ends; d++) {
                due.direction("all SYNC", x, d, 2, 0, 0, 35, 0, 0, 0, 0, 0, 0);
            }
        }
    }

    private static void promise19Octets() {
        due.of("Promise 19, '0 neither, or h is no octet .. BAD: another what'");
        CellSwitch x = new CellSwitch(2);
        int[] noOctets = {LEAST, 82 - 256, -1, 256, 82 + 256, MOST};
        for (int h : noOctets) {
            due.same("h " + h, x.header(1, h, 1), 0);
            due.same("the HEC does not ask for h", x.header(1, h, 0), 82);
        }
        due.same("h 82", x.header(1, 82, 1), 1);
        // h 0 and 255 with octets of which they are the HEC
        int seen = 0;
        for (int octets = 0; octets < 256; octets++) {
            int hec = x.header(octets, 0, 0);
            if (hec == 0 || hec == 255) {
                due.same("h " + hec, x.header(octets, hec, 1), 1);
                due.same("256 more", x.header(octets, hec + 256, 1), 0);
                due.same("256 less", x.header(octets, hec - 256, 1), 0);
                seen++;
            }
        }
        due.same("both were seen", seen, 2);
        int[] whats = {LEAST, -1, 2, 3, MOST};
        for (int what : whats) {
            due.bad("what " + what, x.header(1, 82, what));
        }
    }

    private static void promise19TheFirstAndTheLastBit() {
        due.of("Promise 19, '2 more than the number of the one bit (0 the highest of the 40)'");
        CellSwitch x = new CellSwitch(2);
        int[] headers = {0, 1, -1, LEAST, MOST, 0x202, 0x52, 0x12345678};
        for (int octets : headers) {
            int hec = x.header(octets, 0, 0);
            due.same("bit 0", x.header(octets ^ LEAST, hec, 1), 2);
            due.same("bit 1", x.header(octets ^ 1 << 30, hec, 1), 3);
            due.same("bit 31", x.header(octets ^ 1, hec, 1), 33);
            due.same("bit 32", x.header(octets, hec ^ 128, 1), 34);
            due.same("bit 39", x.header(octets, hec ^ 1, 1), 41);
            due.same("two bits", x.header(octets ^ 3, hec, 1), 0);
            due.same("two bits", x.header(octets ^ LEAST, hec ^ 1, 1), 0);
        }
    }

    private static void promise20Lengths() {
        due.of("Promise 20, '(of these, the 0s behind them, 0, 0 and the number ..); 0: it is empty'");
        int[] lengths = {1, 2, 39, 40, 41, 42, 87, 88, 89, 136, 137, 184, 185, 199, 200};
        for (int length : lengths) {
            CellSwitch x = new CellSwitch(2);
            byte[] bytes = Link.tape(x, length, length);
            int cells = (length + 8 + 47) / 48;
            int[] row = new int[48 * cells - 4];
            for (int i = 0; i < length; i++) {
                row[i] = bytes[i] & 255;
            }
            row[row.length - 2] = length >> 8;
            row[row.length - 1] = length & 255;
            for (int i = 0; i < 4; i++) {
                row[i] ^= 255;
            }
            due.same("crc of " + length, x.crc(), ~(int) Link.remainder(row));
            due.same("the tape stays", x.crc(), ~(int) Link.remainder(row));
        }
        CellSwitch x = new CellSwitch(2);
        due.same("empty", x.crc(), 0);
        x.feed(0, 0, 0, 0, 0);
        due.isTrue("twenty 0s", x.crc() != 0);
        x.end(1);
        due.isTrue("one 0", x.crc() != 0);
        CellSwitch y = new CellSwitch(2);
        y.feed(1, 0, 0, 0, 0);
        y.end(0);
        due.same("empty again", y.crc(), 0);
    }

    private static void promise21AnotherNumber() {
        due.of("Promise 21, 'BAD: another number'");
        CellSwitch x = new CellSwitch(3);
        int[] wrong = {LEAST, -1, 4, 5, MOST};
        for (int what : wrong) {
            due.bad("count(" + what + ")", x.count(what));
        }
        x.tick(2);
        due.same("ends", x.count(0), 3);
        due.same("time", x.count(1), 2);
        due.same("cells", x.count(2), 48);
        due.same("idle ones", x.count(3), 48);
        x.call(0, 1, 1);
        x.tick(1);
        due.same("cells", x.count(2), 72);
        due.same("but for BEGIN all are idle", x.count(3), 71);
        // a cell of data is not idle
        CellSwitch y = Inject.quiet();
        int busy = y.count(2) - y.count(3);
        Link.tape(y, 41, 1);
        y.send(0, 0);
        y.tick(3);
        due.same("two cells on each of two links", y.count(2) - y.count(3) - busy, 4);
    }
}
