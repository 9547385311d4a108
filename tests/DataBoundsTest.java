/** The boundary cases of terms 5 DATA and 6 A TICK, each at the boundary and on both sides of it. */
public final class DataBoundsTest {
    private static final Expect due = new Expect("DataBoundsTest");

    public static void main(String[] args) {
        term5FourMayWaitForEach();
        term5GoneWhenActiveNoMore();
        term5AsManyCellsAsItsRate();
        term5EachFrameWholeBehindTheOther();
        term6CellsByCalls();
        term5ChannelsThatAreNotJoined();
        term5ChannelsOfActiveCalls();
        term5OfSeveralTheFirst();
        term5WhatACallHadOfAFrameIsGone();
        term5AllWithAnotherVpi();
        term5TwentyLatestOfSeveralCalls();
        term6FourCellsMessagesFirst();
        term6AllBeforeAnyComes();
        term6DirectionByDirection();
        term6CellByCell();
        term6TimersThenTheTurn();
        term6CallsByReferences();
        term6SidesInTheirOrder();
        term6BeforeAnyTick();
        due.end();
    }

    private static int send(CellSwitch x, int e, int call, int bytes) {
        Link.tape(x, bytes, bytes);
        return x.send(e, call);
    }

    // ---- 5 DATA

    private static void term5FourMayWaitForEach() {
        due.of("Term 5, '4 may wait for each'");
        CellSwitch x = Link.synced(2);
        x.call(0, 1, 1);
        x.call(0, 1, 1);
        x.tick(15);
        for (int call = 0; call < 2; call++) {
            for (int n = 1; n <= 4; n++) {
                due.same("frame " + n + " of call " + call, send(x, 0, call, 50 + n), n);
            }
            due.full("a fifth of call " + call, send(x, 0, call, 60));
            due.same("the tape stays, the other end sends it", x.send(1, call), 1);
        }
        x.tick(20);
        due.same("four of each came", x.received(1, -1, 0), 8);
        due.same("and two of the others", x.received(0, -1, 0), 2);
    }

    private static void term5GoneWhenActiveNoMore() {
        due.of("Term 5, '(gone, when it is ACTIVE no more)'");
        // hung, released by the other end, cut
        for (int how = 0; how < 3; how++) {
            CellSwitch x = Inject.quiet();
            for (int n = 1; n <= 4; n++) {
                send(x, 0, 0, 200);
            }
            due.same("four wait", x.about(0, 0, 6), 4);
            if (how == 0) {
                x.hang(0, 0);
            } else if (how == 1) {
                x.hang(1, 0);
                due.same("ACTIVE still", x.about(0, 0, 6), 4);
                x.tick(2);
            } else {
                x.quit(0);
            }
            due.same("none waits", x.about(0, 0, 6), 0);
            due.isTrue("ACTIVE no more", x.about(0, 0, 0) != 10);
            x.tick(10);
            int lost = 0;
            for (int d = 0; d < 4; d++) {
                due.same("no data waits", x.direction(d, 9), 0);
                lost += x.direction(d, 7);
            }
            // with the second: a cell came to an end that is RELEASING, and one to channels that are not joined
            due.same("no other cells went", lost, how == 1 ? 2 : 0);
            due.same("nothing came", x.received(1, -1, 0), 0);
        }
    }

    private static void term5AsManyCellsAsItsRate() {
        due.of("Term 5, 'each tick as many cells of them as its rate come into the data queue'");
        int[] rates = {0, 1, 2, 3, 4, 5, 255};
        for (int rate : rates) {
            CellSwitch x = Link.synced(2);
            x.call(0, 1, 1);
            if (rate != 1) {
                Link.change(x, 3, 20, 18, 1 ^ rate);
            }
            x.tick(15);
            due.call("the rate that was told", x, 1, 0, 10, 1001, 32, rate);
            for (int n = 1; n <= 4; n++) {
                send(x, 1, 0, 185);
            }
            x.tick(1);
            int came = Math.min(rate, 20);
            due.same("that wait behind the 4 that went, rate " + rate, x.direction(2, 9), Math.max(0, came - 4));
            due.same("frames that wait, rate " + rate, x.about(1, 0, 6), 4 - came / 5);
            due.same("that went on, rate " + rate, x.direction(1, 9), Math.min(came, 4));
            x.tick(1);
            came = Math.min(2 * rate, 20);
            due.same("frames that wait, rate " + rate, x.about(1, 0, 6), 4 - came / 5);
        }
    }

    private static void term5EachFrameWholeBehindTheOther() {
        due.of("Term 5, '(each frame whole behind the other)'");
        // rate 3, frames of 2, 1, 4 and 1 cells: 3, 3 and 2 cells a tick
        CellSwitch x = Link.connected(3);
        x.tick(5);
        send(x, 0, 0, 41);
        send(x, 0, 0, 40);
        send(x, 0, 0, 184);
        due.same("four wait", send(x, 0, 0, 1), 4);
        x.tick(1);
        due.same("two went", x.about(0, 0, 6), 2);
        x.tick(1);
        due.same("three cells of the third", x.about(0, 0, 6), 2);
        due.same("two came", x.received(1, -1, 0), 2);
        x.tick(1);
        due.same("all went", x.about(0, 0, 6), 0);
        x.tick(1);
        int[] bytes = {1, 184, 40, 41};
        int[] times = {29, 29, 27, 27};
        for (int i = 0; i < 4; i++) {
            due.same("bytes", x.received(1, i, 1), bytes[i]);
            due.same("its time", x.received(1, i, 2), times[i]);
        }
    }

    private static void term6CellsByCalls() {
        due.of("Term 6, 'ends then, their data cells by calls'");
        CellSwitch x = Link.synced(2);
        x.call(0, 1, 1);
        x.call(0, 1, 2);
        x.tick(15);
        send(x, 0, 1, 30);
        send(x, 0, 0, 20);
        x.tick(2);
        due.same("call 0 first", x.received(1, 1, 0), 0);
        due.same("call 1 behind it", x.received(1, 0, 0), 1);
        due.same("at one time", x.received(1, 1, 2), x.received(1, 0, 2));
    }

    /** Changes the channel of cell k, the last of a frame of channel 32, and its VPI. */
    private static void channel(CellSwitch x, int direction, int k, int channel, int vpi) {
        int octets = vpi << 20 | channel << 4 | 2;
        int change = octets ^ 0x202;
        for (int i = 0; i < 4; i++) {
            int mask = change >>> (24 - 8 * i) & 255;
            if (mask != 0) {
                x.damage(direction, Link.FLIP, k, i, mask);
            }
        }
        int mask = x.header(0x202, 0, 0) ^ x.header(octets, 0, 0);
        if (mask != 0) {
            x.damage(direction, Link.FLIP, k, 4, mask);
        }
    }

    private static void term5ChannelsThatAreNotJoined() {
        due.of("Term 5, 'a data cell that it takes, whose channel is JOINED, ..; others are LOST'");
        int[] channels = {1, 4, 6, 31, 32, 33, 0x8020, 0xFFFF};
        for (int c : channels) {
            CellSwitch x = Inject.quiet();
            send(x, 0, 0, 30);
            channel(x, 0, 0, c, 0);
            x.tick(2);
            due.same("channel " + c + ": LOST", x.direction(0, 7), c == 32 ? 0 : 1);
            due.same("channel " + c + ": received", x.received(1, -1, 0), c == 32 ? 1 : 0);
            due.same("not LOST elsewhere", x.direction(1, 7) + x.direction(2, 7) + x.direction(3, 7), 0);
        }
    }

    private static void term5ChannelsOfActiveCalls() {
        due.of("Term 5, 'An end takes cells of channels of its ACTIVE calls ..; others .. are LOST'");
        int[] channels = {1, 4, 6, 31, 32, 33, 0x8020, 0xFFFF};
        for (int c : channels) {
            CellSwitch x = Inject.quiet();
            send(x, 0, 0, 30);
            channel(x, 3, 4, c, 0);
            x.tick(2);
            due.same("channel " + c + ": LOST", x.direction(3, 7), c == 32 ? 0 : 1);
            due.same("channel " + c + ": received", x.received(1, -1, 0), c == 32 ? 1 : 0);
        }
        // one that is ANSWERED is not ACTIVE yet
        CellSwitch x = Inject.quiet();
        setupOfEnd0(x, 40);
        sendOnChannel40(x);
        due.same("LOST while it is ANSWERED", x.direction(1, 7), 1);
        due.same("not received", x.received(0, -1, 0), 0);
        confirmOfEnd0(x);
        sendOnChannel40(x);
        due.same("not LOST while it is ACTIVE", x.direction(1, 7), 1);
        due.same("received", x.received(0, -1, 0), 1);
        due.same("of that call", x.received(0, 0, 0), 1);
        x.hang(0, 1);
        sendOnChannel40(x);
        due.same("LOST while it is RELEASING", x.direction(1, 7), 2);
    }

    private static void sendOnChannel40(CellSwitch x) {
        send(x, 1, 0, 30);
        silence(x, 1);
        channel(x, 1, 0, 40, 0);
        silence(x, 1);
    }

    private static void silence(CellSwitch x, int ticks) {
        for (int t = 0; t < ticks; t++) {
            Link.lose(x, 0, 0, 4);
            x.tick(1);
        }
    }

    /** End 0 is made to get a call 1 of reference 70, on a channel; what it says is lost. */
    private static void setupOfEnd0(CellSwitch x, int channel) {
        int[] elements = Inject.joined(Inject.element(112, 0), Inject.element(89, 1), Inject.element(108, 1),
            Inject.element(90, 0, channel));
        Link.lose(x, 0, 0, 4);
        Inject.dataToEnd(x, 1, x.line(0, 6), Inject.message(Inject.SETUP, true, 70, elements));
        silence(x, 1);
        due.call("ANSWERED", x, 0, 1, 8, 1070, channel);
    }

    private static void confirmOfEnd0(CellSwitch x) {
        Link.lose(x, 0, 0, 4);
        Inject.dataToEnd(x, 1, x.line(0, 6), Inject.message(Inject.CONFIRM, true, 70));
        silence(x, 1);
        due.call("ACTIVE", x, 0, 1, 10, 1070);
    }

    private static void term5OfSeveralTheFirst() {
        due.of("Term 5, '(of several with one channel the first)'");
        // call 1 is on channel 32, as call 0
        CellSwitch x = Inject.quiet();
        setupOfEnd0(x, 32);
        confirmOfEnd0(x);
        send(x, 1, 0, 30);
        silence(x, 2);
        due.same("the frame is of call 0", x.received(0, 0, 0), 0);
        due.same("its bytes", x.received(0, 0, 1), 30);
        // a frame of three cells: two for call 0, which is RELEASING then, and one for call 1
        send(x, 1, 0, 100);
        silence(x, 3);
        x.hang(0, 0);
        silence(x, 1);
        due.same("the last cell alone is SPOILT", x.direction(1, 6), 1);
        due.same("nothing is LOST", x.direction(1, 7), 0);
        send(x, 1, 0, 31);
        silence(x, 2);
        due.same("the frame is of call 1", x.received(0, 0, 0), 1);
        due.same("its bytes", x.received(0, 0, 1), 31);
    }

    private static void term5WhatACallHadOfAFrameIsGone() {
        due.of("Term 5, '(What a call had of a frame is gone, when it is ACTIVE no more.)'");
        CellSwitch x = Inject.quiet();
        send(x, 0, 0, 200);
        x.tick(4);
        x.hang(1, 0);
        x.tick(8);
        due.same("not SPOILT", x.direction(3, 6), 0);
        due.same("not received", x.received(1, -1, 0), 0);
        x.call(0, 1, 1);
        x.tick(10);
        due.call("the same channel", x, 1, 1, 10, 1002, 32);
        send(x, 0, 1, 10);
        x.tick(2);
        due.same("received", x.received(1, 0, 1), 10);
        due.same("not SPOILT", x.direction(3, 6), 0);
    }

    private static void term5AllWithAnotherVpi() {
        due.of("Term 5, 'LOST, so are all with another VPI'");
        int[] vpis = {0, 1, 2, 128, 255};
        for (int vpi : vpis) {
            for (int d = 0; d <= 3; d += 3) {
                CellSwitch x = Inject.quiet();
                send(x, 0, 0, 30);
                channel(x, d, d == 0 ? 0 : 4, 32, vpi);
                x.tick(2);
                due.same("VPI " + vpi + ": LOST", x.direction(d, 7), vpi == 0 ? 0 : 1);
                due.same("VPI " + vpi + ": received", x.received(1, -1, 0), vpi == 0 ? 1 : 0);
                // channels 0 and 5, too
                CellSwitch y = Inject.quiet();
                send(y, 0, 0, 30);
                channel(y, d, d == 0 ? 0 : 4, 5, vpi);
                y.tick(2);
                due.same("a message of VPI " + vpi, y.direction(d, 7), vpi == 0 ? 0 : 1);
                CellSwitch z = Inject.quiet();
                send(z, 0, 0, 30);
                channel(z, d, d == 0 ? 0 : 4, 0, vpi);
                z.tick(2);
                due.same("an idle one of VPI " + vpi, z.direction(d, 7), vpi == 0 ? 0 : 1);
            }
        }
    }

    private static void term5TwentyLatestOfSeveralCalls() {
        due.of("Term 5, 'the 20 latest are kept', of all calls together");
        CellSwitch x = Link.synced(3);
        x.call(0, 1, 1);
        x.call(2, 1, 1);
        x.tick(15);
        for (int n = 0; n < 11; n++) {
            send(x, 0, 0, 1 + n);
            send(x, 2, 0, 100 + n);
            x.tick(5);
        }
        due.same("all", x.received(1, -1, 0), 22);
        int sum = 0;
        for (int i = 0; i < 20; i++) {
            sum += x.received(1, i, 1);
        }
        due.same("of the last ten of both", sum, 10 * (2 + 11) / 2 + 10 * (101 + 110) / 2);
        due.bad("the 21st", x.received(1, 20, 0));
    }

    // ---- 6 A TICK

    private static void term6FourCellsMessagesFirst() {
        due.of("Term 6, 'each direction puts 4 cells on its link (messages first, then data, then idle)'");
        for (int messages = 0; messages <= 4; messages++) {
            CellSwitch x = Link.connected(3);
            x.tick(5);
            for (int i = 0; i < messages; i++) {
                x.call(0, 1, 5);
            }
            send(x, 0, 0, 100);
            int idle = x.count(3);
            x.tick(1);
            due.same("messages went", x.direction(0, 8), 0);
            due.same("data that wait with " + messages, x.direction(0, 9), Math.max(0, messages - 1));
            due.same("idle ones", x.count(3) - idle, 16 - Math.min(4, messages + 3));
        }
        // 5 DATA and a POLL: 2 wait, no data goes; then the two, and two of data
        CellSwitch x = Link.connected(3);
        x.tick(5);
        for (int i = 0; i < 5; i++) {
            x.call(0, 1, 5);
        }
        send(x, 0, 0, 100);
        x.tick(1);
        due.same("messages that wait", x.direction(0, 8), 2);
        due.same("data that wait", x.direction(0, 9), 3);
        x.tick(1);
        due.same("messages that wait", x.direction(0, 8), 0);
        due.same("data that wait", x.direction(0, 9), 1);
    }

    private static void term6AllBeforeAnyComes() {
        due.of("Term 6, 'all of them before any comes'");
        CellSwitch x = Link.synced(2);
        x.call(0, 1, 1);
        x.tick(1);
        due.same("BEGIN came", x.line(2, 0), 2);
        due.same("BEGUN waits, though its direction comes later", x.direction(1, 8), 1);
        due.same("it did not come", x.line(0, 0), 1);
        x.tick(1);
        due.same("it came", x.line(0, 0), 2);
        // data takes a tick for each link
        CellSwitch y = Inject.quiet();
        send(y, 0, 0, 10);
        y.tick(1);
        due.same("at the switch", y.direction(3, 9), 1);
        due.same("not there", y.received(1, -1, 0), 0);
        y.tick(1);
        due.same("there", y.received(1, 0, 2), 27);
    }

    private static void term6DirectionByDirection() {
        due.of("Term 6, 'then they come, direction by direction'");
        // SETUPs of all ends come at one tick, those of the lower directions first
        CellSwitch x = Link.synced(4);
        for (int e = 3; e >= 0; e--) {
            x.call(e, (e + 1) % 4, 2);
        }
        x.tick(4);
        due.call("0 to 1", x, 0, 0, 3, 1, 32);
        due.call("1 to 2 does not fit at link 1", x, 1, 0, 0, 1, -2, 2, 2, 37);
        due.call("2 to 3", x, 2, 0, 3, 1, 32);
        due.call("3 to 0 does not fit", x, 3, 0, 0, 1, -2, 2, 0, 37);
    }

    private static void term6CellByCell() {
        due.of("Term 6, 'cell by cell. What a cell brings is dealt with at once'");
        CellSwitch x = Inject.open();
        // END, then BEGIN in the next cell, then DATA 0 in the one behind it
        Inject.unit(x, Inject.last(Inject.END, 0));
        Inject.unit(x, 8, Inject.last(Inject.BEGIN, 9));
        Inject.data(x, 0, 1);
        x.tick(1);
        due.line("all three", x, 3, 2, 0, 0, 8, 0, 0, 1, 1, 0, 0, 0, 1);
        due.same("ENDED and BEGUN", x.direction(3, 8), 2);
        // DATA 0 before BEGIN is nothing
        x = Inject.open();
        Inject.unit(x, Inject.last(Inject.END, 0));
        Inject.data(x, 0, 1);
        Inject.unit(x, 8, Inject.last(Inject.BEGIN, 9));
        x.tick(1);
        due.line("DATA came to an idle side", x, 3, 2, 0, 0, 8, 0, 0, 0, 0, 0, 0, 0, 1);
    }

    private static void term6TimersThenTheTurn() {
        due.of("Term 6, 'timers of its line, of its calls .., its line's turn'");
        // SETUP that a call's timer tells again goes in this tick's turn
        CellSwitch x = Inject.quiet();
        int said = x.line(0, 1);
        x.call(0, 1, 1);
        for (int t = 26; t <= 33; t++) {
            Link.lose(x, 1, 0, 4);
            x.tick(1);
            due.same("at " + t, x.line(0, 1) - said, t < 33 ? 1 : 2);
            due.same("nothing waits", x.line(0, 8), 0);
        }
        // a line that is CUT by its timer has no calls whose timers go off, and nothing to begin with
        CellSwitch y = Link.synced(2);
        y.call(0, 1, 1);
        for (int t = 11; t <= 30; t++) {
            Link.lose(y, 1, 0, 4);
            y.tick(1);
        }
        due.same("a call a tick before", y.call(0, 1, 1), 1);
        y.tick(1);
        due.line("CUT at 31", y, 0, 0, 0, 0, 0, 0, 0, 0, 0, 0, 0, 0, 1);
        due.call("with 41", y, 0, 1, 0, 2, -2, 1, 1, 41);
        due.same("a call at 31", y.call(0, 1, 1), 2);
        y.tick(1);
        due.line("BEGINNING at 32", y, 0, 1, 0, 0, 0, 0, 0, 0, 0, 1);
    }

    private static void term6CallsByReferences() {
        due.of("Term 6, 'timers .. of its calls (by references as they came to the side)'");
        // two SETUPs are gone with a reset; both are told again at 33, that of the lower reference first
        CellSwitch x = Inject.quiet();
        x.call(0, 1, 1);
        x.call(0, 1, 1);
        Link.lose(x, 0, 0, 4);
        x.tick(1);
        x.reset(0);
        x.tick(7);
        due.link("both came at 33", x, 0, 3, 3, 1);
        x.tick(1);
        due.call("the first", x, 0, 1, 3, 2, 33);
        due.call("the second", x, 0, 2, 3, 3, 34);
        // one that came before it was made: both are RELEASED, and RELEASE is told again of one of them, as 9 messages wait
        CellSwitch y = Link.synced(2);
        y.call(1, 0, 1);
        y.tick(15);
        due.call("reference 1 of the switch", y, 0, 0, 10, 1001, 32);
        y.call(0, 1, 1);
        y.tick(12);
        due.call("its own reference 1", y, 0, 1, 10, 1, 33);
        y.hang(0, 1);
        y.hang(0, 0);
        Link.lose(y, 0, 0, 4);
        y.tick(1);
        due.call("both RELEASING since 37", y, 0, 0, 11);
        // a line that is RESETTING sends no messages: 9 of them wait at 47
        y.reset(0);
        for (int t = 39; t <= 46; t++) {
            Link.lose(y, 1, 0, 4);
            y.tick(1);
            if (t == 46) {
                for (int i = 2; i < 7; i++) {
                    y.call(0, 1, 5);
                }
                for (int i = 2; i < 6; i++) {
                    y.hang(0, i);
                }
            }
        }
        due.same("9 wait at 46", y.line(0, 8), 9);
        due.same("RESETTING", y.line(0, 0), 3);
        Link.lose(y, 1, 0, 4);
        y.tick(1);
        due.same("10 wait at 47", y.line(0, 8), 10);
        y.tick(8);
        due.call("RELEASE of the one that came first is told again", y, 0, 0, 0, 1001, 32, 1, 1, 16);
        due.call("that of the other one is not", y, 0, 1, 11, 1, 33);
        due.same("its channels are joined still", y.link(0, 3, 33), 1033);
    }

    private static void term6SidesInTheirOrder() {
        due.of("Term 6, 'sides 0, 1, .. each'");
        // SETUP that is given up at side 3 tells RELEASE to side 2, whose turn is over; one of side 2 to side 3 goes at once
        CellSwitch x = Inject.quiet();
        x.call(0, 1, 1);
        x.tick(1);
        for (int t = 27; t <= 42; t++) {
            Link.lose(x, 3, 0, 4);
            x.tick(1);
        }
        due.link("given up at 42", x, 1, 1, 1, 1);
        due.same("RELEASE waits at side 2", x.line(2, 8), 1);
        CellSwitch y = Inject.quiet();
        y.call(1, 0, 1);
        y.tick(1);
        for (int t = 27; t <= 41; t++) {
            Link.lose(y, 1, 0, 4);
            y.tick(1);
        }
        int said = y.line(3, 1);
        Link.lose(y, 1, 0, 4);
        y.tick(1);
        due.link("given up at 42", y, 0, 1, 1, 1);
        due.same("RELEASE went from side 3", y.line(3, 1) - said, 1);
        due.same("nothing waits", y.line(3, 8), 0);
    }

    private static void term6BeforeAnyTick() {
        due.of("Term 6, '(before any tick: time 0)'");
        CellSwitch x = new CellSwitch(2);
        due.same("a call at time 0", x.call(0, 1, 1), 0);
        x.tick(1);
        due.same("BEGIN at 1", x.line(0, 0), 1);
        for (int t = 2; t <= 7; t++) {
            Link.lose(x, 1, 0, 4);
            x.tick(1);
        }
        due.same("SETUP once at 7", x.line(0, 8), 1);
        Link.lose(x, 1, 0, 4);
        x.tick(1);
        due.same("SETUP again at 8", x.line(0, 8), 2);
        for (int t = 9; t <= 15; t++) {
            Link.lose(x, 1, 0, 4);
            x.tick(1);
        }
        due.call("ASKED at 15", x, 0, 0, 1, 1, -2, 1, 1, 0);
        Link.lose(x, 1, 0, 4);
        x.tick(1);
        due.call("over at 16", x, 0, 0, 0, 1, -2, 1, 1, 102);
        // BEGIN at 1, 6, 11, 16; given up at 21
        for (int t = 17; t <= 20; t++) {
            Link.lose(x, 1, 0, 4);
            x.tick(1);
        }
        due.same("BEGINNING at 20", x.line(0, 0), 1);
        x.tick(1);
        due.line("CUT at 21", x, 0, 0, 0, 0, 0, 0, 0, 0, 0, 0, 0, 0, 1);
    }
}
