import java.util.Arrays;

/** The boundary cases of term 3 LINES, each at the boundary and on both sides of it. */
public final class LinesBoundsTest {
    private static final Expect due = new Expect("LinesBoundsTest");
    private static final int IDLE = 0, BEGINNING = 1, READY = 2, RESETTING = 3, ENDING = 4, RECOVERING = 5;
    private static final int BEGIN = Inject.BEGIN, BEGUN = Inject.BEGUN, END = Inject.END, ENDED = Inject.ENDED,
        RESET = Inject.RESET, RESET_DONE = Inject.RESET_DONE, DATA = Inject.DATA, RECOVER = Inject.RECOVER,
        POLL = Inject.POLL, STATUS = Inject.STATUS, GAP = Inject.GAP, RECOVERED = Inject.RECOVERED;

    public static void main(String[] args) {
        term3BeginInEachState();
        term3BeginOfTheLastN();
        term3BegunInEachState();
        term3EndInEachState();
        term3EndedInEachState();
        term3ResetInEachState();
        term3ResetOfTheLastN();
        term3AnswersToResetInEachState();
        term3OthersCountForReadyAlone();
        term3LengthsOfUnits();
        term3NumbersThatNoSideTells();
        term3OtherKinds();
        term3MessagesOf1To60Bytes();
        term3ARowOfTen();
        term3NumbersBelowMay();
        term3DataFromRToM();
        term3DataAtH();
        term3DataThatCameAhead();
        term3AllBeginAnew();
        term3PollUpToM();
        term3TheListOfAStatus();
        term3TheNumberOfAStatus();
        term3ThePollOfAStatus();
        term3AListThatRises();
        term3AListOfTwelve();
        term3WhatGoesAgain();
        term3TheBoundsOfAGap();
        term3FourTimes();
        term3BehindEachFifthData();
        term3FourTicks();
        term3TwentyTicks();
        term3ThirtyTicks();
        term3NumbersOfBegin();
        due.end();
    }

    private static int last(int kind, int n) {
        return Inject.last(kind, n);
    }

    /** Side 3 of an open switch in each state; what it sent to be so is lost, and end 1 can put units on its link. */
    private static CellSwitch in(int state) {
        CellSwitch x = Inject.open();
        if (state == IDLE || state == BEGINNING) {
            Inject.unit(x, last(END, 0));
            x.tick(2);
        }
        if (state == BEGINNING) {
            x.call(0, 1, 1);
            x.tick(1);
            Link.lose(x, 3, 0, 1);
            x.tick(1);
        } else if (state == RESETTING || state == ENDING) {
            due.same("it was READY", state == RESETTING ? x.reset(3) : x.quit(3), 1);
            Link.lose(x, 3, 0, 1);
            x.tick(1);
        } else if (state == RECOVERING) {
            Inject.unit(x, 5, 10, last(STATUS, 2));
            x.tick(1);
            Link.lose(x, 3, 0, 1);
            x.tick(1);
        }
        due.same("how it is", x.line(3, 0), state == RECOVERING ? RESETTING : state);
        due.same("nothing waits for the link", x.direction(3, 8), 0);
        due.call("end 1 can send", x, 1, 0, 10, 1001, 5);
        return x;
    }

    /** All that can be seen of side 3, and what it puts on its link. */
    private static int[] look(CellSwitch x) {
        int[] seen = new int[15];
        for (int what = 0; what < 12; what++) {
            seen[what] = x.line(3, what);
        }
        seen[12] = x.direction(3, 8);
        seen[13] = x.link(1, 0, 0);
        seen[14] = x.direction(2, 6);
        return seen;
    }

    /** A unit comes to side 3, and nothing is seen of it. */
    private static void nothing(String what, CellSwitch x, int... words) {
        nothingOf(what, x, Inject.bytesOf(words));
    }

    private static void nothingOf(String what, CellSwitch x, int... bytes) {
        int[] before = look(x);
        Inject.unitOf(x, bytes);
        x.tick(1);
        due.same(what + ": the unit went", x.direction(2, 9), 0);
        int[] then = look(x);
        due.isTrue(what + " is nothing, but " + Arrays.toString(before) + " became " + Arrays.toString(then),
            Arrays.equals(before, then));
    }

    private static void come(CellSwitch x, int... words) {
        Inject.unit(x, words);
        x.tick(1);
    }

    // ---- units in each state

    private static void term3BeginInEachState() {
        due.of("Term 3, 'BEGIN: .. if the side was READY, RESETTING or ENDING, its calls are over ..; then all ANEW'");
        for (int state = IDLE; state <= RECOVERING; state++) {
            CellSwitch x = in(state);
            int cuts = x.line(3, 11);
            int waits = x.line(3, 8);
            int calls = x.link(1, 0, 0);
            come(x, 8, last(BEGIN, 7));
            due.line("BEGIN in " + state, x, 3, READY, 0, 0, 8, 0, 0, 0, 0, waits, 0, 0, cuts);
            due.same("BEGUN in " + state, x.direction(3, 8), 1);
            due.same("calls in " + state, x.link(1, 0, 0), state == BEGINNING ? calls : 0);
            if (state == READY || state >= RESETTING) {
                x.tick(1);
                due.same("the other of them is RELEASED with 41", x.about(0, 0, 5), 41);
            }
        }
    }

    private static void term3BeginOfTheLastN() {
        due.of("Term 3, 'BEGIN: READY, if that was the last BEGIN's N that came: BEGUN again'");
        int[] numbers = {6, 7, 8};
        for (int n : numbers) {
            CellSwitch x = in(READY);
            come(x, 8, last(BEGIN, 7));
            Inject.data(x, 0, 1);
            x.tick(1);
            due.line("DATA 0 came", x, 3, READY, 0, 0, 8, 0, 0, 1, 1);
            come(x, 8, last(BEGIN, n));
            due.line("BEGIN " + n + " behind 7", x, 3, READY, 0, 0, 8, 0, 0, n == 7 ? 1 : 0, n == 7 ? 1 : 0);
            due.same("BEGUN", x.direction(3, 8), 1);
        }
        // of one that is not READY the same N begins anew
        CellSwitch x = in(READY);
        come(x, 8, last(BEGIN, 7));
        Inject.data(x, 0, 1);
        x.tick(1);
        x.reset(3);
        Link.lose(x, 3, 0, 1);
        x.tick(1);
        come(x, 8, last(BEGIN, 7));
        due.line("BEGIN 7 again of RESETTING", x, 3, READY, 0, 0, 8, 0, 0, 0, 0);
    }

    private static void term3BegunInEachState() {
        due.of("Term 3, 'BEGUN: of BEGINNING: READY, all ANEW, MAY is M; else nothing'");
        for (int state = IDLE; state <= RECOVERING; state++) {
            CellSwitch x = in(state);
            if (state == BEGINNING) {
                come(x, 8, last(BEGUN, 0));
                due.line("BEGUN of BEGINNING", x, 3, READY, 0, 0, 8, 0, 0, 0, 0, 1, 0, 0, 1);
            } else {
                nothing("BEGUN in " + state, x, 8, last(BEGUN, 0));
            }
        }
    }

    private static void term3EndInEachState() {
        due.of("Term 3, 'END: IDLE (CUT, if it was not), ENDED'");
        for (int n = 0; n <= 1; n++) {
            for (int state = IDLE; state <= RECOVERING; state++) {
                CellSwitch x = in(state);
                int cuts = x.line(3, 11) + (state == IDLE ? 0 : 1);
                come(x, last(END, n));
                due.line("END in " + state, x, 3, IDLE, 0, 0, 0, 0, 0, 0, 0, 0, 0, 0, cuts);
                due.same("ENDED in " + state, x.direction(3, 8), 1);
                due.same("no calls", x.link(1, 0, 0), 0);
            }
        }
    }

    private static void term3EndedInEachState() {
        due.of("Term 3, 'ENDED: of ENDING: IDLE, all ANEW (MAY 0); else nothing'");
        for (int state = IDLE; state <= RECOVERING; state++) {
            CellSwitch x = in(state);
            if (state == ENDING) {
                come(x, last(ENDED, 0));
                due.line("ENDED of ENDING, which is not CUT", x, 3, IDLE, 0, 0, 0, 0, 0, 0, 0, 0, 0, 0, 0);
                due.same("no answer", x.direction(3, 8), 0);
            } else {
                nothing("ENDED in " + state, x, last(ENDED, 0));
            }
        }
    }

    private static void term3ResetInEachState() {
        due.of("Term 3, 'RESET, RECOVER: .. READY, RESETTING else: all ANEW ..; IDLE: END 1; else nothing'");
        int[] kinds = {RESET, RECOVER};
        for (int kind : kinds) {
            for (int state = IDLE; state <= RECOVERING; state++) {
                CellSwitch x = in(state);
                if (state == BEGINNING || state == ENDING) {
                    nothing(kind + " in " + state, x, 8, last(kind, 7));
                    continue;
                }
                int calls = x.link(1, 0, 0);
                int cuts = x.line(3, 11);
                come(x, 8, last(kind, 7));
                due.same("an answer to " + kind + " in " + state, x.direction(3, 8), 1);
                due.same("calls stay", x.link(1, 0, 0), calls);
                if (state == IDLE) {
                    due.line("IDLE", x, 3, IDLE, 0, 0, 0, 0, 0, 0, 0, 0, 0, 0, cuts);
                    x.tick(1);
                    due.line("END came to the other side", x, 1, IDLE, 0, 0, 0, 0, 0, 0, 0, 0, 0, 0, 1);
                } else {
                    due.line("READY anew", x, 3, READY, 0, 0, 8, 0, 0, 0, 0, 0, 0, 0, cuts);
                }
            }
        }
    }

    private static void term3ResetOfTheLastN() {
        due.of("Term 3, 'READY: the N of the last RESET or RECOVER that came again: only the answer'");
        int[] kinds = {RESET, RECOVER};
        for (int first : kinds) {
            for (int second : kinds) {
                for (int n = 6; n <= 8; n++) {
                    CellSwitch x = in(READY);
                    come(x, 8, last(first, 7));
                    Inject.data(x, 0, 1);
                    x.tick(1);
                    due.same("R", x.line(3, 6), 1);
                    come(x, 8, last(second, n));
                    due.same(second + " " + n + " behind " + first + " 7: R", x.line(3, 6), n == 7 ? 1 : 0);
                    due.same("READY", x.line(3, 0), READY);
                    due.same("the answer", x.direction(3, 8), 1);
                }
            }
        }
        // the N of a BEGIN is not one of a RESET
        CellSwitch x = in(READY);
        come(x, 8, last(BEGIN, 7));
        Inject.data(x, 0, 1);
        x.tick(1);
        come(x, 8, last(RESET, 7));
        due.same("RESET 7 behind BEGIN 7: R", x.line(3, 6), 0);
    }

    private static void term3AnswersToResetInEachState() {
        due.of("Term 3, 'RESET DONE, RECOVERED: of RESETTING (by RESET, by RECOVER): READY ..; else nothing'");
        int[][] answers = {{RESET_DONE, RESETTING}, {RECOVERED, RECOVERING}};
        for (int[] answer : answers) {
            for (int state = IDLE; state <= RECOVERING; state++) {
                CellSwitch x = in(state);
                if (state == answer[1]) {
                    come(x, 8, last(answer[0], 0));
                    due.line(answer[0] + " in " + state, x, 3, READY, 0, 0, 8, 0, 0, 0, 0, 0, 0, 0, 0);
                    due.same("no answer", x.direction(3, 8), 0);
                    due.same("calls stay", x.link(1, 0, 0), 1);
                } else {
                    nothing(answer[0] + " in " + state, x, 8, last(answer[0], 0));
                }
            }
        }
    }

    private static void term3OthersCountForReadyAlone() {
        due.of("Term 3, 'All others count for READY alone'");
        for (int state = IDLE; state <= RECOVERING; state++) {
            if (state != READY) {
                int r = in(state).line(3, 6);
                nothingOf("DATA in " + state, in(state), Inject.joined(new int[] {1}, Inject.bytesOf(last(DATA, r))));
                nothing("POLL in " + state, in(state), 1, last(POLL, 3));
                nothing("STATUS in " + state, in(state), 99, 10, last(STATUS, 2));
                nothing("GAP in " + state, in(state), 0, 9, 10, last(GAP, 2));
            }
        }
        CellSwitch x = in(READY);
        come(x, 1, last(POLL, 3));
        due.same("POLL in READY", x.line(3, 7), 3);
        x = in(READY);
        come(x, 99, 10, last(STATUS, 2));
        due.same("a wrong STATUS in READY", x.line(3, 0), RESETTING);
        x = in(READY);
        come(x, 0, 9, 10, last(GAP, 2));
        due.same("a wrong GAP in READY", x.line(3, 0), RESETTING);
    }

    // ---- what is thrown away

    /** In a state where the unit counts: so long, and with bytes more or fewer. */
    private static void lengths(int kind, int state, int... words) {
        int[] right = Inject.bytesOf(words);
        int[] fewer = Arrays.copyOfRange(right, 4, right.length);
        int[] more = Inject.joined(new int[4], right);
        int[] lastBytes = Arrays.copyOfRange(right, right.length - 3, right.length);
        if (fewer.length > 0) {
            nothingOf("4 bytes fewer of " + kind, in(state), fewer);
        }
        nothingOf("4 bytes more of " + kind, in(state), more);
        nothingOf("1 byte more of " + kind, in(state), Inject.joined(new int[1], right));
        nothingOf("1 byte more behind " + kind, in(state), Inject.joined(right, new int[1]));
        nothingOf("3 bytes of " + kind, in(state), lastBytes);
        if (right.length > 4) {
            nothingOf("1 byte fewer of " + kind, in(state), Arrays.copyOfRange(right, 1, right.length));
        }
        CellSwitch x = in(state);
        int[] before = look(x);
        Inject.unit(x, words);
        x.tick(1);
        due.isTrue("so long " + kind + " counts", !Arrays.equals(before, look(x)));
    }

    private static void term3LengthsOfUnits() {
        due.of("Term 3, 'Thrown away are others, those of another length'");
        lengths(BEGIN, READY, 8, last(BEGIN, 7));
        lengths(BEGUN, BEGINNING, 8, last(BEGUN, 0));
        lengths(END, READY, last(END, 0));
        lengths(ENDED, ENDING, last(ENDED, 0));
        lengths(RESET, READY, 8, last(RESET, 7));
        lengths(RECOVER, READY, 8, last(RECOVER, 7));
        lengths(RESET_DONE, RESETTING, 8, last(RESET_DONE, 0));
        lengths(RECOVERED, RECOVERING, 8, last(RECOVERED, 0));
        lengths(POLL, READY, 1, last(POLL, 3));
        // GAP of what was not sent is wrong; four bytes fewer or more are no GAP
        lengths(GAP, READY, 2, 3, 10, last(GAP, 2));
        // a list may be longer, but not by bytes
        CellSwitch x = in(READY);
        nothingOf("STATUS of 8 bytes", x, Inject.bytesOf(10, last(STATUS, 2)));
        nothingOf("STATUS of 13 bytes", x, Inject.joined(new int[1], Inject.bytesOf(1, 10, last(STATUS, 2))));
        nothingOf("STATUS of 11 bytes", x, Inject.joined(new int[3], Inject.bytesOf(10, last(STATUS, 2))));
        nothingOf("STATUS of 14 bytes", x, Inject.joined(new int[2], Inject.bytesOf(1, 10, last(STATUS, 2))));
    }

    private static void term3NumbersThatNoSideTells() {
        due.of("Term 3, 'and with numbers that no side tells: an M that is not 8 (of STATUS, GAP: N and 8); N 0 of ..'");
        int[] wrongM = {0, 7, 9, 256 + 8, 8 << 8, 8 << 24, -8};
        int[][] kinds = {{BEGIN, READY, 7}, {BEGUN, BEGINNING, 0}, {RESET, READY, 7}, {RECOVER, READY, 7},
            {RESET_DONE, RESETTING, 0}, {RECOVERED, RECOVERING, 0}};
        for (int[] kind : kinds) {
            for (int m : wrongM) {
                nothing("M " + m + " of " + kind[0], in(kind[1]), m, last(kind[0], kind[2]));
            }
            int wrongN = kind[2] == 0 ? 1 : 0;
            nothing("N " + wrongN + " of " + kind[0], in(kind[1]), 8, last(kind[0], wrongN));
            if (kind[2] == 0) {
                nothing("N of " + kind[0], in(kind[1]), 8, last(kind[0], 0x800000));
            } else {
                CellSwitch x = in(kind[1]);
                come(x, 8, last(kind[0], 1));
                due.same("N 1 of " + kind[0] + ": anew", x.line(3, 6), 0);
                x = in(kind[1]);
                come(x, 8, last(kind[0], 0xFFFFFF));
                due.same("the highest N of " + kind[0] + ": anew", x.line(3, 6), 0);
            }
        }
        nothing("END 2", in(READY), last(END, 2));
        nothing("END of the highest", in(READY), last(END, 0xFFFFFF));
        nothing("ENDED 1", in(ENDING), last(ENDED, 1));
        for (int m = 9; m <= 11; m++) {
            CellSwitch x = in(READY);
            if (m == 10) {
                come(x, 99, m, last(STATUS, 2));
                due.same("STATUS with M 10 and N 2 counts", x.line(3, 0), RESETTING);
                x = in(READY);
                come(x, 2, 3, m, last(GAP, 2));
                due.same("GAP with M 10 and N 2 counts", x.line(3, 0), RESETTING);
            } else {
                nothing("STATUS with M " + m, x, 99, m, last(STATUS, 2));
                nothing("GAP with M " + m, x, 2, 3, m, last(GAP, 2));
            }
        }
    }

    private static void term3OtherKinds() {
        due.of("Term 3, 'Thrown away are others'");
        int[] kinds = {0, 7, 13, 14, 16, 128, 255};
        for (int kind : kinds) {
            CellSwitch x = in(READY);
            nothing("kind " + kind, x, last(kind, 0));
            nothing("kind " + kind, x, 8, last(kind, 1));
            nothing("kind " + kind, x, 1, 10, last(kind, 2));
            nothing("kind " + kind, x, 2, 3, 10, last(kind, 2));
        }
    }

    // ---- messages

    private static void term3MessagesOf1To60Bytes() {
        due.of("Term 3, 'MESSAGES (rows of 1 .. 60 bytes)'");
        int[] lengths = {0, 1, 2, 36, 37, 59, 60, 61, 62, 100, 196};
        for (int length : lengths) {
            CellSwitch x = in(READY);
            Inject.data(x, 1, new int[length]);
            x.tick(2);
            boolean taken = length >= 1 && length <= 60;
            due.same("R behind " + length, x.line(3, 6), taken ? 2 : 1);
            due.same("H behind " + length, x.line(3, 7), taken ? 2 : 1);
            due.same("not SPOILT", x.direction(2, 6), 0);
        }
    }

    /** SETUP of end 1 with rate 0, which the switch answers by COMPLETE 96: a message of side 3. */
    private static void refusedSetup(CellSwitch x, int n) {
        Inject.data(x, n, Inject.message(Inject.SETUP, true, 100 + n,
            Inject.joined(Inject.element(112, 0), Inject.element(89, 0))));
    }

    private static void silentTick(CellSwitch x) {
        Link.lose(x, 3, 0, 4);
        x.tick(1);
    }

    private static void term3ARowOfTen() {
        due.of("Term 3, 'Its messages wait in a row of 10 (more are refused)'");
        CellSwitch x = in(READY);
        // 4 messages come with each tick; 8 of them go, and are lost on the link
        int[] waits = {4, 4, 4, 8, 10, 10};
        for (int t = 0; t < waits.length; t++) {
            for (int i = 0; i < 4; i++) {
                refusedSetup(x, 1 + 4 * t + i);
            }
            silentTick(x);
            due.same("all came at tick " + t, x.line(3, 6), 5 + 4 * t);
            due.same("messages that wait", x.line(3, 8), waits[t]);
            due.same("sent", x.line(3, 1), 2 + Math.min(8, 4 * t));
        }
        // 9, 10 and 11 of the end that calls: RELEASE is refused, SETUP is not asked for
        CellSwitch y = Link.synced(2);
        for (int i = 0; i < 8; i++) {
            y.call(0, 1, 1);
        }
        y.hang(0, 0);
        due.same("9 wait", y.line(0, 8), 9);
        y.hang(0, 1);
        due.same("10 wait", y.line(0, 8), 10);
        due.same("the 11th is refused", y.hang(0, 2), 1);
        due.same("10 wait", y.line(0, 8), 10);
        y.tick(4);
        due.call("RELEASE 0 came", y, 0, 0, 11);
        due.link("the third call was not RELEASED", y, 0, 3, 3, 0);
    }

    private static void term3NumbersBelowMay() {
        due.of("Term 3, 'then new ones, while S is below MAY'");
        for (int calls = 7; calls <= 8; calls++) {
            CellSwitch x = Link.synced(2);
            for (int i = 0; i < calls; i++) {
                x.call(0, 1, 5);
            }
            x.hang(0, 0);
            Link.lose(x, 0, 8, 8);
            x.tick(3);
            due.same("S with " + (calls + 1), x.line(0, 1), 8);
            due.same("MAY", x.line(0, 3), 8);
            due.same("that wait", x.line(0, 8), calls - 7);
        }
        // A is 1, 2 .. by STATUS: so many more go
        for (int n = 2; n <= 6; n++) {
            CellSwitch x = full();
            Inject.unit(x, 2, n + 8, last(STATUS, n));
            silentTick(x);
            due.line("STATUS " + n, x, 3, READY, 10, n, n + 8, 2, 2);
            due.same("that wait", x.line(3, 8), 3);
            silentTick(x);
            due.same("S", x.line(3, 1), Math.min(13, n + 8));
            due.same("that wait", x.line(3, 8), 3 - Math.min(3, n - 2));
        }
    }

    /** Side 3 with S 10, A 2, MAY 10 and three that wait; P is 2. */
    private static CellSwitch full() {
        CellSwitch x = in(READY);
        for (int n = 1; n <= 11; n++) {
            refusedSetup(x, n);
            if (n % 4 == 0 || n == 11) {
                silentTick(x);
            }
        }
        silentTick(x);
        due.line("full", x, 3, READY, 10, 2, 10, 2, 1, 12, 12, 3, 8);
        return x;
    }

    private static void term3DataFromRToM() {
        due.of("Term 3, 'DATA N: at R: taken .. Above it, below M: .. it is kept. Else nothing'");
        // R is 1, M is 9
        nothingOf("DATA 0", in(READY), Inject.joined(new int[] {1}, Inject.bytesOf(last(DATA, 0))));
        nothingOf("DATA 9", in(READY), Inject.joined(new int[] {1}, Inject.bytesOf(last(DATA, 9))));
        nothingOf("the highest", in(READY), Inject.joined(new int[] {1}, Inject.bytesOf(last(DATA, 0xFFFFFF))));
        CellSwitch x = in(READY);
        Inject.data(x, 1, 1);
        x.tick(1);
        due.line("DATA 1", x, 3, READY, 2, 2, 10, 1, 1, 2, 2, 0, 0, 0, 0);
        due.same("no GAP", x.direction(3, 8), 0);
        int[] ahead = {2, 3, 7, 8};
        for (int n : ahead) {
            x = in(READY);
            Inject.data(x, n, 1);
            x.tick(1);
            due.line("DATA " + n, x, 3, READY, 2, 2, 10, 1, 1, 1, n + 1, 0, 0, 1, 0);
            due.same("GAP", x.direction(3, 8), 1);
        }
        due.of("Term 3, 'R goes on, with all that came ahead and follows'");
        for (int missing = 2; missing <= 8; missing++) {
            x = in(READY);
            for (int n = 2; n <= 8; n++) {
                if (n != missing) {
                    Inject.data(x, n, 1);
                }
                if (n % 4 == 0) {
                    x.tick(1);
                    Link.lose(x, 3, 0, 4);
                }
            }
            due.same("ahead", x.line(3, 10), 6);
            Inject.data(x, 1, 1);
            silentTick(x);
            due.same("R up to " + missing, x.line(3, 6), missing);
            due.same("ahead", x.line(3, 10), 8 - missing);
            due.same("H", x.line(3, 7), missing == 8 ? 8 : 9);
            Inject.data(x, missing, 1);
            silentTick(x);
            due.line("all", x, 3, READY, 2, 2, 10, 1, 1, 9, 9, 0, 0, 0, 0);
        }
    }

    private static void term3DataAtH() {
        due.of("Term 3, 'if N is above H: GAP H, N, M; R; then, if it is H or above, H is N and 1'");
        // POLL with N 4: H is 4
        int[][] numbers = {{2, 0, 4}, {3, 0, 4}, {4, 0, 5}, {5, 1, 6}, {6, 1, 7}};
        for (int[] n : numbers) {
            CellSwitch x = in(READY);
            come(x, 1, last(POLL, 4));
            due.same("H", x.line(3, 7), 4);
            Link.lose(x, 3, 0, 1);
            x.tick(1);
            Inject.data(x, n[0], 1);
            x.tick(1);
            due.same("GAP of DATA " + n[0], x.direction(3, 8), n[1]);
            due.same("H of DATA " + n[0], x.line(3, 7), n[2]);
            due.same("it is kept", x.line(3, 10), 1);
        }
        due.of("Term 3, 'H is R at least'");
        CellSwitch x = in(READY);
        Inject.data(x, 1, 1);
        Inject.data(x, 2, 1);
        x.tick(1);
        due.line("DATA 1, 2", x, 3, READY, 2, 2, 10, 1, 1, 3, 3);
        x = in(READY);
        come(x, 1, last(POLL, 4));
        Link.lose(x, 3, 0, 1);
        Inject.data(x, 1, 1);
        x.tick(1);
        due.line("DATA 1 with H 4", x, 3, READY, 2, 2, 10, 1, 1, 2, 4);
    }

    private static void term3DataThatCameAhead() {
        due.of("Term 3, 'messages .. come once each, in order'");
        CellSwitch x = in(READY);
        Inject.data(x, 3, 1);
        x.tick(1);
        Link.lose(x, 3, 0, 1);
        Inject.data(x, 3, 1);
        x.tick(1);
        due.line("DATA 3 twice is there once", x, 3, READY, 2, 2, 10, 1, 1, 1, 4, 0, 0, 1);
        due.same("no other GAP", x.direction(3, 8), 0);
        Inject.data(x, 2, 1);
        Inject.data(x, 1, 1);
        x.tick(1);
        due.line("all", x, 3, READY, 2, 2, 10, 1, 1, 4, 4, 0, 0, 0);
        nothingOf("DATA 3 once more", x, Inject.joined(new int[] {1}, Inject.bytesOf(last(DATA, 3))));
        // seven ahead and the one whose turn it is: eight messages, each answered
        for (int ahead = 6; ahead <= 7; ahead++) {
            x = in(READY);
            for (int n = 2; n <= ahead + 1; n++) {
                refusedSetup(x, n);
                if (n % 4 == 0 || n == ahead + 1) {
                    silentTick(x);
                }
            }
            due.same("ahead", x.line(3, 10), ahead);
            due.same("none is answered", x.line(3, 8), 0);
            refusedSetup(x, 1);
            silentTick(x);
            due.line("all", x, 3, READY, 2, 2, 10, 1, 1, ahead + 2, ahead + 2, ahead + 1, 0, 0);
        }
    }

    // ---- POLL and STATUS

    private static void term3AllBeginAnew() {
        due.of("Term 3, 'All begin ANEW: numbers 0, what was sent or came ahead is gone (what waits stays)'");
        for (int n = 2; n <= 8; n++) {
            CellSwitch x = in(READY);
            Inject.data(x, n, 1);
            x.tick(1);
            due.same("DATA " + n + " came ahead", x.line(3, 10), 1);
            Link.lose(x, 3, 0, 1);
            come(x, 8, last(RESET, 7));
            due.line("gone", x, 3, READY, 0, 0, 8, 0, 0, 0, 0, 0, 0, 0, 0);
            Inject.data(x, 0, 1);
            x.tick(1);
            due.line("DATA 0 alone", x, 3, READY, 0, 0, 8, 0, 0, 1, 1, 0, 0, 0, 0);
        }
        CellSwitch x = full();
        come(x, 8, last(RESET, 7));
        due.line("what was sent is gone, what waits stays", x, 3, READY, 0, 0, 8, 0, 0, 0, 0, 3, 0);
        silentTick(x);
        due.line("it goes", x, 3, READY, 3, 0, 8, 0, 0, 0, 0, 0, 3);
        // 3 DATA since the last POLL, then 4 since the line began anew: the fifth of these is the next
        for (int more = 1; more <= 2; more++) {
            CellSwitch y = Link.synced(2);
            for (int i = 0; i < 3; i++) {
                y.call(0, 1, 5);
            }
            y.tick(3);
            due.line("3 sent", y, 0, READY, 3, 0, 8, 0, 0);
            y.reset(0);
            y.tick(1);
            for (int i = 0; i < 3 + more; i++) {
                y.call(0, 1, 5);
            }
            y.tick(2);
            due.line("sent since", y, 0, READY, 3 + more, 0, 8, more == 2 ? 1 : 0, 0);
        }
    }

    private static void term3PollUpToM() {
        due.of("Term 3, 'POLL P, N: H is N at least (not above M)'");
        int[][] numbers = {{0, 1}, {1, 1}, {2, 2}, {8, 8}, {9, 9}, {10, 9}, {0xFFFFFF, 9}};
        for (int[] n : numbers) {
            CellSwitch x = in(READY);
            come(x, 1, last(POLL, n[0]));
            due.line("POLL " + n[0], x, 3, READY, 2, 2, 10, 1, 1, 1, n[1]);
            due.same("STATUS", x.direction(3, 8), 1);
        }
        CellSwitch x = in(READY);
        come(x, 1, last(POLL, 5));
        Link.lose(x, 3, 0, 1);
        come(x, 1, last(POLL, 3));
        due.same("POLL 3 behind 5", x.line(3, 7), 5);
    }

    private static void term3TheListOfAStatus() {
        due.of("Term 3, 'the list: from R on, where missing ones begin, where those that are there, and so on, up to H'");
        // of DATA 2 .. 9 at side 2, whose R is 2, these do not come; then what the list is
        int[][] lost = {{2}, {2, 3}, {2, 9}, {2, 4}, {2, 4, 6, 8}, {2, 3, 4, 5, 6, 7, 8, 9}, {9}};
        int[][] lists = {{2, 3, 10}, {2, 4, 10}, {2, 3, 9, 10}, {2, 3, 4, 5, 10}, {2, 3, 4, 5, 6, 7, 8, 9, 10}, {2, 10},
            {9, 10}};
        for (int i = 0; i < lost.length; i++) {
            CellSwitch x = Inject.quiet();
            // call 0 is not released, so that it can carry what is read
            for (int call = 1; call <= 7; call++) {
                x.call(0, 1, 5);
            }
            x.hang(0, 1);
            due.same("eight wait", x.line(0, 8), 8);
            // DATA 2 .. 6, POLL, DATA 7, 8, 9
            for (int n : lost[i]) {
                x.damage(0, Link.LOSE, n < 7 ? n - 2 : n - 1, 0, 0);
            }
            for (int t = 0; t < 4; t++) {
                Link.lose(x, 1, 0, 4);
                x.tick(1);
            }
            due.line("all were sent", x, 0, READY, 10, 2, 10, 3, 2, 2, 2, 0, 8);
            // the next POLL is 4 ticks behind the last, at 30; its STATUS goes at 31
            Link.lose(x, 1, 0, 4);
            x.tick(1);
            due.same("POLL came", x.line(0, 4), 4);
            int cells = 4 * lists[i].length + 12 > 40 ? 2 : 1;
            readStatus(x, cells, 4, lists[i]);
        }
    }

    /** Direction 1 has a STATUS as its last message cells: it comes to end 0 as a frame of its call 0. */
    private static void readStatus(CellSwitch x, int cells, int p, int[] list) {
        int waits = x.direction(1, 8);
        due.isTrue("its cells wait", waits >= cells);
        for (int c = 0; c < cells; c++) {
            boolean isLast = c == cells - 1;
            int k = waits - cells + c;
            int message = isLast ? 0x52 : 0x50;
            int frame = isLast ? 0x202 : 0x200;
            x.damage(1, Link.FLIP, k, 2, 0x02);
            x.damage(1, Link.FLIP, k, 3, (message ^ frame) & 255);
            x.damage(1, Link.FLIP, k, 4, x.header(message, 0, 0) ^ x.header(frame, 0, 0));
        }
        int before = x.received(0, -1, 0);
        x.tick(1);
        due.same("it came", x.received(0, -1, 0), before + 1);
        int r = list[0];
        int[] words = Inject.joined(list, new int[] {p, r + 8, last(STATUS, r)});
        int[] bytes = Inject.bytesOf(words);
        due.same("its length", x.received(0, 0, 1), bytes.length);
        for (int i = 0; i < bytes.length; i++) {
            due.same("byte " + i + " of " + Arrays.toString(list), x.byteOf(0, 0, i), bytes[i]);
        }
    }

    /** Time 28: side 3 with S 6, A 2, MAY 10, P 2, PA 1; DATA 2 .. 5 went last with P 1, all are lost; R, H 5. */
    private static CellSwitch sending() {
        CellSwitch x = in(READY);
        for (int n = 1; n <= 4; n++) {
            refusedSetup(x, n);
        }
        x.tick(1);
        silentTick(x);
        due.line("sent", x, 3, READY, 6, 2, 10, 1, 1, 5, 5, 0, 4);
        silentTick(x);
        due.line("sent", x, 3, READY, 6, 2, 10, 2, 1, 5, 5, 0, 4);
        return x;
    }

    /** A STATUS comes to side 3: answers whether it is wrong, and so RECOVER is sent. */
    private static boolean isWrong(CellSwitch x, int... words) {
        come(x, words);
        boolean wrong = x.line(3, 0) == RESETTING;
        due.same("RECOVER", x.direction(3, 8), wrong ? 1 : 0);
        if (wrong) {
            due.line("its numbers stay", x, 3, RESETTING, 6, 2, 10, 2, 1, 5, 5, 0, 4);
        }
        return wrong;
    }

    private static void term3TheNumberOfAStatus() {
        due.of("Term 3, 'STATUS: wrong (then RECOVER: RESETTING) if N is not A .. S'");
        int[] numbers = {0, 1, 2, 3, 5, 6, 7, 0xFFFFFF};
        for (int n : numbers) {
            CellSwitch x = sending();
            boolean right = n >= 2 && n <= 6;
            due.isTrue("STATUS " + n, isWrong(x, 2, n + 8, last(STATUS, n)) != right);
            if (right) {
                due.line("A is N, MAY is M, PA is P", x, 3, READY, 6, n, n + 8, 2, 2, 5, 5, 0, 6 - n);
            }
        }
    }

    private static void term3ThePollOfAStatus() {
        due.of("Term 3, 'P is not PA .. P of this side'");
        int[] polls = {-1, 0, 1, 2, 3, 1 << 24, Integer.MIN_VALUE, Integer.MAX_VALUE};
        for (int p : polls) {
            CellSwitch x = sending();
            boolean right = p == 1 || p == 2;
            due.isTrue("STATUS of P " + p, isWrong(x, p, 11, last(STATUS, 3)) != right);
            if (right) {
                due.line("PA is that P", x, 3, READY, 6, 3, 11, 2, p, 5, 5, 0, 3);
            }
        }
        // PA is 2 then: a STATUS of P 1 is too old
        CellSwitch x = sending();
        due.isTrue("P 2", !isWrong(x, 2, 10, last(STATUS, 2)));
        come(x, 1, 10, last(STATUS, 2));
        due.same("P 1 behind P 2", x.line(3, 0), RESETTING);
    }

    private static void term3AListThatRises() {
        due.of("Term 3, 'or its list does not rise from N on up to S at most'");
        // N 3; A is 2, S is 6
        int[][] right = {{}, {3}, {6}, {3, 4}, {3, 6}, {5, 6}, {4, 5, 6}, {3, 4, 5, 6}};
        int[][] wrong = {{2}, {7}, {2, 4}, {3, 3}, {4, 3}, {3, 7}, {6, 7}, {3, 5, 5}, {3, 5, 4}, {3, 4, 5, 7}, {-1}, {3, -1},
            {3, Integer.MIN_VALUE}, {3, Integer.MAX_VALUE}};
        for (int[] list : right) {
            CellSwitch x = sending();
            due.isTrue(Arrays.toString(list) + " is right",
                !isWrong(x, Inject.joined(list, new int[] {2, 11, last(STATUS, 3)})));
            due.line("A is N", x, 3, READY, 6, 3, 11, 2, 2, 5, 5, 0, 3);
        }
        for (int[] list : wrong) {
            CellSwitch x = sending();
            due.isTrue(Arrays.toString(list) + " is wrong",
                isWrong(x, Inject.joined(list, new int[] {2, 11, last(STATUS, 3)})));
        }
    }

    private static void term3AListOfTwelve() {
        due.of("Term 3, 'STATUS (11): a list of up to 12'");
        // so many numbers do not rise from 2 to 6: wrong with 12, thrown away with 13
        for (int n = 11; n <= 14; n++) {
            CellSwitch x = sending();
            int[] words = Inject.joined(new int[n], new int[] {2, 10, last(STATUS, 2)});
            if (n <= 12) {
                due.isTrue("a list of " + n, isWrong(x, words));
            } else {
                nothing("a list of " + n, x, words);
            }
        }
    }

    private static void term3WhatGoesAgain() {
        due.of("Term 3, 'those from each odd one (..) to the next that went last with a P below that are to go AGAIN'");
        // the P and the list of a STATUS of N 2, and how many of DATA 2 .. 5 go again
        int[][] lists = {{2, 0}, {2, 0, 2}, {2, 1, 2, 3}, {2, 4, 2, 6}, {2, 3, 2, 5}, {2, 1, 5, 6}, {2, 2, 2, 3, 5, 6},
            {2, 3, 2, 3, 4, 6}, {2, 2, 2, 3, 4, 5}, {2, 1, 2, 3, 4}, {2, 2, 3, 5, 6}, {1, 0, 2, 6}, {1, 0, 2, 3}};
        for (int[] one : lists) {
            CellSwitch x = sending();
            int[] list = Arrays.copyOfRange(one, 2, one.length);
            due.isTrue("right", !isWrong(x, Inject.joined(list, new int[] {one[0], 10, last(STATUS, 2)})));
            int before = x.count(2) - x.count(3);
            Link.lose(x, 3, 0, 4);
            x.tick(1);
            due.same("P " + one[0] + " and " + Arrays.toString(list), x.count(2) - x.count(3) - before, one[1]);
            due.same("S", x.line(3, 1), 6);
        }
        // an odd one that is the last has no next, however high the P behind it is
        CellSwitch z = sending();
        for (int t = 29; t <= 44; t++) {
            silentTick(z);
        }
        due.same("POLL 6 at 44", z.line(3, 4), 6);
        come(z, 2, 6, 10, last(STATUS, 2));
        due.line("right", z, 3, READY, 6, 2, 10, 6, 6);
        int waits = z.count(2) - z.count(3);
        silentTick(z);
        due.same("none goes AGAIN", z.count(2) - z.count(3) - waits, 0);
        // those that went again went with P 2: a STATUS of P 2 does not ask for them, one of P 3 does
        CellSwitch x = sending();
        come(x, 2, 6, 2, 10, last(STATUS, 2));
        silentTick(x);
        Inject.unit(x, 2, 6, 2, 10, last(STATUS, 2));
        x.tick(1);
        int before = x.count(2) - x.count(3);
        silentTick(x);
        // POLL 3 goes at 32, 4 ticks behind POLL 2
        due.same("P 2: nothing but the POLL", x.count(2) - x.count(3) - before, 1);
        due.same("POLL 3", x.line(3, 4), 3);
        come(x, 2, 6, 3, 10, last(STATUS, 2));
        before = x.count(2) - x.count(3);
        silentTick(x);
        due.same("P 3: all four", x.count(2) - x.count(3) - before, 4);
    }

    private static void term3TheBoundsOfAGap() {
        due.of("Term 3, 'GAP: wrong if not A <= N <= a < b <= S; else A is N, MAY is M, those from a to b - 1 go AGAIN'");
        // N, a, b; A is 2, S is 6
        int[][] right = {{2, 2, 3}, {2, 2, 6}, {2, 5, 6}, {3, 3, 4}, {5, 5, 6}, {4, 5, 6}, {2, 3, 5}};
        int[][] wrong = {{1, 2, 3}, {3, 2, 4}, {2, 3, 3}, {2, 4, 3}, {2, 2, 7}, {2, 6, 7}, {6, 6, 7}, {6, 5, 6}, {2, 1, 3},
            {2, -1, 3}, {2, 2, -1}, {7, 7, 8}};
        for (int[] gap : right) {
            CellSwitch x = sending();
            due.isTrue(Arrays.toString(gap) + " is right", !isWrong(x, gap[1], gap[2], gap[0] + 8, last(GAP, gap[0])));
            due.line("A is N, PA stays", x, 3, READY, 6, gap[0], gap[0] + 8, 2, 1, 5, 5, 0, 6 - gap[0]);
            int before = x.count(2) - x.count(3);
            silentTick(x);
            due.same("go AGAIN", x.count(2) - x.count(3) - before, gap[2] - gap[1]);
        }
        for (int[] gap : wrong) {
            CellSwitch x = sending();
            due.isTrue(Arrays.toString(gap) + " is wrong", isWrong(x, gap[1], gap[2], gap[0] + 8, last(GAP, gap[0])));
        }
        // whatever the P at which they went last
        CellSwitch x = sending();
        come(x, 2, 6, 10, last(GAP, 2));
        silentTick(x);
        come(x, 2, 6, 10, last(GAP, 2));
        int before = x.count(2) - x.count(3);
        silentTick(x);
        due.same("four, POLL 3, and no other", x.count(2) - x.count(3) - before, 4);
        due.same("POLL behind the fifth since POLL 2", x.line(3, 4), 3);
    }

    // ---- what is sent again, and timers

    /** What comes to the other side is answered there, on the way back nothing comes: the ticks at which it came. */
    private static void answers(String what, CellSwitch x, int from, int answering, int until, int... ticks) {
        for (int t = from; t <= until; t++) {
            Link.lose(x, answering, 0, 4);
            x.tick(1);
            boolean came = false;
            for (int tick : ticks) {
                came |= tick == t;
            }
            due.same(what + " at " + t, x.direction(answering, 8), came ? 1 : 0);
        }
    }

    private static void term3FourTimes() {
        due.of("Term 3, 'Five ticks behind, and so on, the same is sent again, four times in all; then END 1, IDLE, it is CUT'");
        CellSwitch x = Link.synced(2);
        x.call(0, 1, 1);
        answers("BEGIN", x, 11, 1, 30, 11, 16, 21, 26);
        due.same("BEGINNING at 30", x.line(0, 0), BEGINNING);
        due.same("not CUT", x.line(0, 11), 0);
        answers("END 1", x, 31, 1, 36, 31);
        due.line("CUT", x, 0, IDLE, 0, 0, 0, 0, 0, 0, 0, 0, 0, 0, 1);
        due.of("Term 3, 'So with RESETTING and ENDING (by what they sent)'");
        x = Inject.quiet();
        x.reset(0);
        answers("RESET", x, 26, 1, 44, 26, 30, 35, 40);
        due.same("RESETTING at 44", x.line(0, 0), RESETTING);
        answers("END 1", x, 45, 1, 50, 45);
        due.line("CUT", x, 0, IDLE, 0, 0, 0, 0, 0, 0, 0, 0, 0, 0, 1);
        x = Inject.quiet();
        x.quit(0);
        answers("END 0", x, 26, 1, 44, 26, 30, 35, 40);
        due.same("ENDING at 44", x.line(0, 0), ENDING);
        due.same("not CUT", x.line(0, 11), 0);
        answers("END 1", x, 45, 1, 50, 45);
        due.line("CUT", x, 0, IDLE, 0, 0, 0, 0, 0, 0, 0, 0, 0, 0, 1);
        x = Inject.open();
        Inject.unit(x, 5, 10, last(STATUS, 2));
        x.tick(1);
        due.same("RECOVER at 26", x.line(3, 0), RESETTING);
        answers("RECOVER", x, 27, 2, 45, 27, 31, 36, 41);
        due.same("RESETTING at 45", x.line(3, 0), RESETTING);
        answers("END 1", x, 46, 2, 51, 46);
        due.line("CUT", x, 3, IDLE, 0, 0, 0, 0, 0, 0, 0, 0, 0, 0, 1);
        due.of("Term 3, an answer to the last of four, a tick before it is given up and a tick too late");
        for (int late = 0; late <= 1; late++) {
            x = in(RESETTING);
            for (int t = 27; t <= 43 + late; t++) {
                silentTick(x);
            }
            Inject.unit(x, 8, last(RESET_DONE, 0));
            silentTick(x);
            due.same("RESET DONE at " + (44 + late), x.line(3, 0), late == 0 ? READY : IDLE);
            due.same("CUT", x.line(3, 11), late);
            x.tick(1);
            due.same("at " + (45 + late), x.line(3, 0), late == 0 ? READY : IDLE);
        }
    }

    private static void term3BehindEachFifthData() {
        due.of("Term 3, 'behind each fifth DATA since its last POLL, a POLL'");
        for (int n = 1; n <= 8; n++) {
            CellSwitch x = Link.synced(2);
            for (int i = 0; i < n; i++) {
                x.call(0, 1, 5);
            }
            x.tick(3);
            due.same("DATA sent at 13", x.line(0, 1), n);
            due.same("POLLs of " + n, x.line(0, 4), n / 5);
            due.same("cells that wait", x.direction(0, 8), Math.max(0, n + n / 5 - 4));
        }
        // since the last POLL: 4, then 1 more before 4 ticks are past
        CellSwitch x = Link.synced(2);
        for (int i = 0; i < 4; i++) {
            x.call(0, 1, 5);
        }
        x.tick(3);
        due.same("four", x.line(0, 4), 0);
        x.call(0, 1, 5);
        x.tick(1);
        due.same("the fifth, a tick later", x.line(0, 4), 1);
        // a POLL of the timer begins the count anew
        CellSwitch y = Link.synced(2);
        for (int i = 0; i < 4; i++) {
            y.call(0, 1, 5);
        }
        y.tick(6);
        due.same("POLL of the timer at 16", y.line(0, 4), 1);
        for (int i = 0; i < 4; i++) {
            y.call(0, 1, 5);
        }
        y.tick(1);
        due.line("four since it", y, 0, READY, 8, 4, 12, 1, 1);
    }

    private static void term3FourTicks() {
        due.of("Term 3, 'when 4 ticks or more are past since its last POLL (or READY) and something is not acknowledged'");
        CellSwitch x = Link.synced(2);
        x.call(0, 1, 5);
        x.tick(2);
        due.same("READY at 12", x.line(0, 0), READY);
        int[] polls = {0, 0, 0, 1, 1, 1, 1, 2, 2, 2, 2, 3};
        for (int i = 0; i < polls.length; i++) {
            Link.lose(x, 1, 0, 4);
            x.tick(1);
            due.same("POLLs at " + (13 + i), x.line(0, 4), polls[i]);
            due.same("not acknowledged", x.line(0, 9) > 0 ? 1 : 0, 1);
        }
        // 4 ticks or more: something is sent at 26, six ticks behind the POLL at 20
        x = Inject.quiet();
        x.call(0, 1, 5);
        x.tick(1);
        due.same("DATA at 26", x.line(0, 9), 1);
        due.same("POLL 2 at 20", x.line(0, 4), 2);
        x.tick(1);
        due.same("POLL 3 at 27", x.line(0, 4), 3);
    }

    private static void term3TwentyTicks() {
        due.of("Term 3, 'or 20: a POLL'");
        CellSwitch x = Inject.quiet();
        due.same("all is acknowledged", x.line(0, 9), 0);
        due.same("POLL 2 at 20", x.line(0, 4), 2);
        x.tick(14);
        due.same("19 ticks behind", x.line(0, 4), 2);
        x.tick(1);
        due.same("20 ticks behind", x.line(0, 4), 3);
        x.tick(19);
        due.same("19 ticks behind", x.line(0, 4), 3);
        x.tick(1);
        due.same("20 ticks behind", x.line(0, 4), 4);
        // or READY: end 1 is READY since 14 by BEGIN of the switch, and sends nothing
        x = Link.synced(2);
        x.call(0, 1, 1);
        x.tick(4);
        due.same("READY at 14", x.line(1, 0), READY);
        for (int t = 15; t <= 33; t++) {
            Link.lose(x, 3, 0, 4);
            x.tick(1);
            due.same("no POLL at " + t, x.line(1, 4), 0);
        }
        x.tick(1);
        due.same("POLL at 34", x.line(1, 4), 1);
    }

    private static void term3ThirtyTicks() {
        due.of("Term 3, '30 ticks behind the last STATUS (or when it became READY): END 1, IDLE, CUT'");
        CellSwitch x = Link.synced(2);
        x.call(0, 1, 5);
        x.tick(2);
        due.same("READY at 12", x.line(0, 0), READY);
        for (int t = 13; t <= 41; t++) {
            Link.lose(x, 1, 0, 4);
            x.tick(1);
        }
        due.same("READY at 41", x.line(0, 0), READY);
        Link.lose(x, 1, 0, 4);
        x.tick(1);
        due.line("CUT at 42", x, 0, IDLE, 0, 0, 0, 0, 0, 0, 0, 0, 0, 0, 1);
        due.same("END came", x.line(2, 0), IDLE);
        // a STATUS at the 29th tick, and none behind it
        CellSwitch y = Link.synced(2);
        y.call(0, 1, 5);
        y.tick(2);
        // the POLL of the switch at 39 comes, so that it has a STATUS itself
        for (int t = 13; t <= 40; t++) {
            if (t != 39) {
                Link.lose(y, 1, 0, 4);
            }
            y.tick(1);
        }
        // POLLs go at 16, 20 .. 40, their STATUS at 17, 21 .. 41
        due.same("no STATUS came", y.line(0, 5), 0);
        y.tick(1);
        due.same("STATUS came at 41", y.line(0, 5), 7);
        for (int t = 42; t <= 70; t++) {
            Link.lose(y, 1, 0, 4);
            y.tick(1);
        }
        due.same("READY at 70", y.line(0, 0), READY);
        Link.lose(y, 1, 0, 4);
        y.tick(1);
        due.same("CUT at 71", y.line(0, 0), IDLE);
        due.same("once", y.line(0, 11), 1);
    }

    private static void term3NumbersOfBegin() {
        due.of("Term 3, 'BEGIN with N one more than its last BEGIN, RESET, RECOVER had (the first has 1)'");
        // side 0 had BEGIN 1, and has RESET 2 and 3; RESET 4 is made 3 or 5 on the link
        for (int made = 3; made <= 5; made += 2) {
            CellSwitch x = Inject.quiet();
            x.reset(0);
            x.tick(2);
            due.line("RESET 2", x, 0, READY, 0, 0, 8);
            x.reset(0);
            x.tick(1);
            due.line("RESET 3 is another", x, 2, READY, 0, 0, 8, 0, 0, 0, 0);
            x.hang(0, 0);
            x.tick(8);
            due.isTrue("RELEASE came", x.line(2, 6) > 0);
            int r = x.line(2, 6);
            x.reset(0);
            Link.change(x, 0, x.direction(0, 8) - 1, 7, 4 ^ made);
            x.tick(1);
            due.same("3 came before: only the answer", x.line(2, 6), made == 3 ? r : 0);
        }
    }
}
