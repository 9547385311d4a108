import java.util.Arrays;

/** The boundary cases of term 4 CALLS, each at the boundary and on both sides of it. */
public final class CallsBoundsTest {
    private static final Expect due = new Expect("CallsBoundsTest");
    private static final int OVER = 0, ASKED = 1, PROCEEDS = 3, PRESENT = 6, ANSWERED = 8, PRESENTED = 9,
        ACTIVE = 10, RELEASING = 11;
    private static final int SETUP = Inject.SETUP, PROCEEDING = Inject.PROCEEDING, CONNECT = Inject.CONNECT,
        CONFIRM = Inject.CONFIRM, RELEASE = Inject.RELEASE, COMPLETE = Inject.COMPLETE;
    private static final int[] NO_ELEMENTS = {};

    public static void main(String[] args) {
        term4SetupOfAnEndJustSo();
        term4ReleaseJustSo();
        term4ProceedingAndConnectOfAnEndJustSo();
        term4SetupOfTheSwitchJustSo();
        term4ProceedingOfTheSwitchJustSo();
        term4TheHighestBitOfAReference();
        term4EachMessageInEachState();
        term4EachMessageInEachStateOfTheSwitch();
        term4TheOtherSidesCall();
        term4SetupOfTheSwitchThatIsNotOver();
        term4CauseOfOneThatIsReleasing();
        term4ReferencesThatAreOverOrNone();
        term4SetupEightTicksBehind();
        term4ProceedingFortyTicksBehind();
        term4ConfirmTenTicksBehind();
        term4ReleaseTenTicksBehind();
        term4SetupOfTheSwitchEightTicksBehind();
        term4PresentedFortyTicksBehind();
        term4EightThatAreNotOver();
        term4FortyInAll();
        term4TheEndCalled();
        term4TheRate();
        term4RatesTogetherAbove3();
        term4TheLeastChannel();
        term4RefusedCallsUseNoReference();
        term4FreeWhenOver();
        term4JoinedTillOneIsReleased();
        term4ASideThatIsCut();
        term4TheSwitchThatIsCut();
        term4AMessageThatIsRefused();
        due.end();
    }

    private static int[] cause(int value) {
        return Inject.element(8, value);
    }

    private static int[] setupElements(int called, int rate) {
        return Inject.joined(Inject.element(112, called), Inject.element(89, rate));
    }

    private static int[] setupElements(int called, int rate, int caller, int channel) {
        return Inject.joined(setupElements(called, rate), Inject.element(108, caller),
            Inject.element(90, channel >> 8, channel & 255));
    }

    /** A message of end 1 comes to the switch. */
    private static void toSwitch(CellSwitch x, int... message) {
        int r = x.line(3, 6);
        Inject.data(x, r, message);
        x.tick(1);
        due.same("it was taken", x.line(3, 6), r + 1);
    }

    /** A message comes to end 0, with the second of two ticks. What end 0 says is lost, so that no answers come. */
    private static void toEnd(CellSwitch x, int... message) {
        int r = x.line(0, 6);
        due.same("no message is on the way", x.direction(1, 8) + x.line(2, 8), 0);
        Link.lose(x, 0, 0, 4);
        Inject.dataToEnd(x, 1, r, message);
        silent(x, 0, 1);
        due.same("it was taken", x.line(0, 6), r + 1);
    }

    // ---- messages just so

    /** The bytes of a message, each of those at which it is no more just so changed by 1. */
    private static int[][] changed(int[] message, int... places) {
        int[][] all = new int[2 * places.length + 2][];
        for (int i = 0; i < places.length; i++) {
            all[2 * i] = message.clone();
            all[2 * i][places[i]] = message[places[i]] + 1 & 255;
            all[2 * i + 1] = message.clone();
            all[2 * i + 1][places[i]] = message[places[i]] - 1 & 255;
        }
        all[2 * places.length] = Arrays.copyOf(message, message.length - 1);
        all[2 * places.length + 1] = Arrays.copyOf(message, message.length + 1);
        return all;
    }

    private static void term4SetupOfAnEndJustSo() {
        due.of("Term 4, 'A message that is not just so .. is nothing', SETUP of an end");
        int[] right = Inject.message(SETUP, true, 70, setupElements(0, 1));
        CellSwitch x = Inject.open();
        toSwitch(x, right);
        due.link("it makes a call", x, 1, 2, 2, 1);
        due.link("at both links", x, 0, 2, 2, 1);
        for (int[] message : changed(right, 0, 1, 5, 6, 7, 8, 9, 10, 11, 12, 14, 15, 16, 17)) {
            setupIsNothing(message);
        }
        setupIsNothing(Inject.message(SETUP, false, 70, setupElements(0, 1)));
        setupIsNothing(Inject.message(SETUP, true, 70, Inject.element(112, 0)));
        setupIsNothing(Inject.message(SETUP, true, 70, NO_ELEMENTS));
        setupIsNothing(Inject.message(SETUP, true, 70, Inject.joined(Inject.element(89, 1), Inject.element(112, 0))));
        setupIsNothing(Inject.message(SETUP, true, 70, Inject.joined(setupElements(0, 1), cause(1))));
        setupIsNothing(Inject.message(SETUP, true, 70, setupElements(0, 1, 1, 40)));
        setupIsNothing(Inject.message(SETUP, true, 70, Inject.joined(Inject.element(112, 0, 0), Inject.element(89, 1))));
        setupIsNothing(Inject.message(SETUP, true, 70, Inject.joined(Inject.element(112), Inject.element(89, 1))));
        setupIsNothing(Arrays.copyOf(right, 9));
        setupIsNothing(Arrays.copyOf(right, 8));
        setupIsNothing(Arrays.copyOf(right, 1));
    }

    private static void setupIsNothing(int... message) {
        CellSwitch x = Inject.open();
        toSwitch(x, message);
        due.link("no call of " + Arrays.toString(message), x, 1, 1, 1, 1);
        due.same("no answer to " + Arrays.toString(message), x.line(3, 8), 0);
    }

    private static void term4ReleaseJustSo() {
        due.of("Term 4, 'RELEASE, COMPLETE 8'");
        // call 0 has the reference 1 of the switch: the highest bit is 1
        int[] types = {RELEASE, COMPLETE};
        for (int type : types) {
            CellSwitch x = Inject.open();
            int[] right = Inject.message(type, false, 1, cause(0));
            toSwitch(x, right);
            due.link("it is over", x, 1, 0, 0, 0);
            due.same("COMPLETE of RELEASE", x.line(3, 8), type == RELEASE ? 1 : 0);
            x.tick(1);
            due.call("any cause", x, 0, 0, 0, 1, 32, 1, 1, 0);
            int[][] wrong = changed(right, 0, 1, 2, 6, 7, 8, 9, 10, 11, 12);
            for (int[] message : wrong) {
                CellSwitch y = Inject.open();
                toSwitch(y, message);
                due.link("nothing: " + Arrays.toString(message), y, 1, 1, 1, 1);
            }
            int[][] others = {Inject.message(type, false, 1, NO_ELEMENTS),
                Inject.message(type, false, 1, Inject.element(8)), Inject.message(type, false, 1, Inject.element(8, 1, 1)),
                Inject.message(type, false, 1, Inject.joined(cause(1), cause(1)))};
            for (int[] message : others) {
                CellSwitch y = Inject.open();
                toSwitch(y, message);
                due.link("nothing: " + Arrays.toString(message), y, 1, 1, 1, 1);
                due.same("no answer", y.line(3, 8), 0);
            }
        }
    }

    /** Time 27: the switch told SETUP of reference 2 to end 1; it is lost and gone, so that no other answer comes. */
    private static CellSwitch present() {
        CellSwitch x = Inject.open();
        x.call(0, 1, 1);
        x.tick(1);
        Link.lose(x, 3, 0, 4);
        x.tick(1);
        due.link("two calls, one is joined", x, 1, 2, 2, 1);
        return x;
    }

    private static void term4ProceedingAndConnectOfAnEndJustSo() {
        due.of("Term 4, 'PROCEEDING of the switch 90, else nothing; CONNECT, CONFIRM nothing'");
        CellSwitch x = present();
        toSwitch(x, Inject.message(CONNECT, false, 2, NO_ELEMENTS));
        due.link("CONNECT in PRESENT", x, 1, 2, 2, 2);
        int[] right = Inject.message(CONNECT, false, 2, NO_ELEMENTS);
        int[][] wrong = changed(right, 0, 1, 2, 3, 4, 5, 6, 7, 8);
        for (int[] message : wrong) {
            x = present();
            toSwitch(x, message);
            due.link("nothing: " + Arrays.toString(message), x, 1, 2, 2, 1);
        }
        x = present();
        toSwitch(x, Inject.message(CONNECT, false, 2, cause(1)));
        due.link("CONNECT with an element", x, 1, 2, 2, 1);
        x = present();
        toSwitch(x, Inject.message(CONFIRM, false, 2, NO_ELEMENTS));
        due.link("CONFIRM at the switch", x, 1, 2, 2, 1);
        // SETUP is told again at 34 if PROCEEDING is nothing
        int[][] proceedings = {NO_ELEMENTS, Inject.element(90, 0, 32), cause(1)};
        for (int[] elements : proceedings) {
            x = present();
            toSwitch(x, Inject.message(PROCEEDING, false, 2, elements));
            int waits = x.line(3, 1) + x.line(3, 8);
            for (int t = 29; t <= 34; t++) {
                Link.lose(x, 3, 0, 4);
                x.tick(1);
            }
            due.same("SETUP again behind " + Arrays.toString(elements), x.line(3, 1) + x.line(3, 8) - waits,
                elements.length == 0 ? 0 : 1);
        }
    }

    private static void term4SetupOfTheSwitchJustSo() {
        due.of("Term 4, 'SETUP has 112, 89, of the switch also 108, 90, in this order'");
        int[] right = Inject.message(SETUP, true, 70, setupElements(0, 2, 1, 300));
        CellSwitch x = Inject.quiet();
        toEnd(x, right);
        due.call("it makes a call", x, 0, 1, ANSWERED, 1070, 300, 2, 1, 0, 0);
        int[][] wrong = changed(right, 0, 1, 5, 6, 7, 8, 9, 10, 11, 12, 14, 15, 16, 17, 19, 20, 21, 22, 24, 25, 26, 27);
        for (int[] message : wrong) {
            endIsNotCalled(message);
        }
        endIsNotCalled(Inject.message(SETUP, false, 70, setupElements(0, 2, 1, 300)));
        endIsNotCalled(Inject.message(SETUP, true, 70, setupElements(0, 2)));
        endIsNotCalled(Inject.message(SETUP, true, 70,
            Inject.joined(setupElements(0, 2), Inject.element(90, 1, 44), Inject.element(108, 1))));
        endIsNotCalled(Inject.message(SETUP, true, 70,
            Inject.joined(setupElements(0, 2), Inject.element(108, 1), Inject.element(90, 44))));
        endIsNotCalled(Inject.message(SETUP, true, 70, Inject.joined(setupElements(0, 2, 1, 300), cause(1))));
        // any end, rate and channel
        x = Inject.quiet();
        toEnd(x, Inject.message(SETUP, true, 0x7FFFFF, setupElements(255, 255, 255, 0xFFFF)));
        due.call("the highest of all", x, 0, 1, ANSWERED, 0x7FFFFF + 1000, 0xFFFF, 255, 255, 0, 0);
        x = Inject.quiet();
        toEnd(x, Inject.message(SETUP, true, 0, setupElements(0, 0, 0, 0)));
        due.call("the least of all", x, 0, 1, ANSWERED, 1000, 0, 0, 0, 0, 0);
    }

    private static void endIsNotCalled(int... message) {
        CellSwitch x = Inject.quiet();
        toEnd(x, message);
        due.same("nothing: " + Arrays.toString(message), x.calls(0), 1);
        due.same("no answer", x.line(0, 8), 0);
    }

    /** Time 25: end 0 has a call 1 that is ASKED, of reference 2. */
    private static CellSwitch asked() {
        CellSwitch x = Inject.quiet();
        x.call(0, 1, 1);
        return x;
    }

    private static void term4ProceedingOfTheSwitchJustSo() {
        due.of("Term 4, 'PROCEEDING of the switch 90'");
        int[] right = Inject.message(PROCEEDING, false, 2, Inject.element(90, 1, 44));
        CellSwitch x = asked();
        toEnd(x, right);
        due.call("it proceeds", x, 0, 1, PROCEEDS, 2, 300, 1, 1, 0);
        int[][] wrong = changed(right, 0, 1, 2, 3, 4, 5, 6, 7, 8, 9, 10, 11, 12);
        for (int[] message : wrong) {
            x = asked();
            toEnd(x, message);
            due.call("nothing: " + Arrays.toString(message), x, 0, 1, ASKED, 2, -2, 1, 1, 0);
        }
        int[][] others = {NO_ELEMENTS, Inject.element(90, 44), Inject.element(90, 0, 0, 44),
            Inject.joined(Inject.element(90, 1, 44), cause(1))};
        for (int[] elements : others) {
            x = asked();
            toEnd(x, Inject.message(PROCEEDING, false, 2, elements));
            due.call("nothing: " + Arrays.toString(elements), x, 0, 1, ASKED, 2, -2, 1, 1, 0);
        }
    }

    private static void term4TheHighestBitOfAReference() {
        due.of("Term 4, 'the highest bit is 0 if the side that sends it made the reference, else 1'");
        // end 0 has reference 1 of its own; a call that it gets has reference 1 of the switch
        CellSwitch x = Inject.quiet();
        toEnd(x, Inject.message(SETUP, true, 1, setupElements(0, 1, 1, 300)));
        due.call("another call", x, 0, 1, ANSWERED, 1001, 300);
        toEnd(x, Inject.message(CONFIRM, false, 1, NO_ELEMENTS));
        due.call("CONFIRM of its own 1", x, 0, 1, ANSWERED);
        toEnd(x, Inject.message(CONFIRM, true, 1, NO_ELEMENTS));
        due.call("CONFIRM of 1 of the switch", x, 0, 1, ACTIVE);
        toEnd(x, Inject.message(COMPLETE, true, 1, cause(5)));
        due.call("COMPLETE of 1 of the switch", x, 0, 1, OVER, 1001, 300, 1, 1, 5);
        due.call("its own 1 stays", x, 0, 0, ACTIVE);
        toEnd(x, Inject.message(COMPLETE, false, 1, cause(6)));
        due.call("COMPLETE of its own 1", x, 0, 0, OVER, 1, 32, 1, 1, 6);
    }

    // ---- states

    /** Call 1 of end 0 in a state: of its own reference 2, or of reference 70 of the switch. */
    private static CellSwitch endIn(int state, boolean own) {
        CellSwitch x = own ? asked() : Inject.quiet();
        if (own && (state == PROCEEDS || state == ACTIVE)) {
            toEnd(x, Inject.message(PROCEEDING, false, 2, Inject.element(90, 0, 40)));
            if (state == ACTIVE) {
                toEnd(x, Inject.message(CONNECT, false, 2, NO_ELEMENTS));
            }
        } else if (!own) {
            x.policy(0, state == PRESENT ? 1 : 0, 30);
            toEnd(x, Inject.message(SETUP, true, 70, setupElements(0, 1, 1, 40)));
            if (state == ACTIVE) {
                toEnd(x, Inject.message(CONFIRM, true, 70, NO_ELEMENTS));
            }
        }
        if (state == RELEASING || state == OVER) {
            x.hang(0, 1);
            silent(x, 0, 1);
        }
        if (state == OVER) {
            toEnd(x, Inject.message(COMPLETE, !own, own ? 2 : 70, cause(9)));
        }
        due.same("how it is", x.about(0, 1, 0), state);
        return x;
    }

    /** The state behind a message in a state. */
    private static int behind(int type, int state, boolean own) {
        if (state == OVER) {
            return OVER;
        }
        if (type == RELEASE || type == COMPLETE) {
            return OVER;
        }
        if (own && type == PROCEEDING && state == ASKED) {
            return PROCEEDS;
        }
        if (own && type == CONNECT && state == ASKED) {
            return RELEASING;
        }
        if (own && type == CONNECT && state == PROCEEDS) {
            return ACTIVE;
        }
        return !own && type == CONFIRM && state == ANSWERED ? ACTIVE : state;
    }

    private static void term4EachMessageInEachState() {
        due.of("Term 4, 'and so is what a call's state does not name (PROCEEDING in 3, CONFIRM at the switch)'");
        int[] ownStates = {ASKED, PROCEEDS, ACTIVE, RELEASING, OVER};
        int[] otherStates = {PRESENT, ANSWERED, ACTIVE, RELEASING, OVER};
        int[] types = {PROCEEDING, CONNECT, CONFIRM, RELEASE, COMPLETE};
        for (int own = 0; own < 2; own++) {
            for (int state : own == 1 ? ownStates : otherStates) {
                for (int type : types) {
                    messageIn(type, state, own == 1);
                }
            }
        }
        for (int state : otherStates) {
            CellSwitch x = endIn(state, false);
            int had = x.calls(0);
            toEnd(x, Inject.message(SETUP, true, 70, setupElements(0, 1, 1, 41)));
            due.same("SETUP of one that is in " + state, x.calls(0), state == OVER ? had + 1 : had);
            due.same("it stays", x.about(0, 1, 0), state);
        }
    }

    private static void messageIn(int type, int state, boolean own) {
        CellSwitch x = endIn(state, own);
        int channel = x.about(0, 1, 2);
        int cause = x.about(0, 1, 5);
        int said = x.line(0, 1) + x.line(0, 8);
        int[] elements = type == PROCEEDING ? Inject.element(90, 0, 77) : type == RELEASE || type == COMPLETE ? cause(33)
            : NO_ELEMENTS;
        toEnd(x, Inject.message(type, !own, own ? 2 : 70, elements));
        String what = type + " in " + state + (own ? ", of its own" : "");
        int then = behind(type, state, own);
        due.same(what, x.about(0, 1, 0), then);
        boolean proceeds = type == PROCEEDING && then != state;
        due.same(what + ": its channel", x.about(0, 1, 2), proceeds ? 77 : channel);
        boolean cleared = state != OVER && state != RELEASING && then == OVER;
        due.same(what + ": its cause", x.about(0, 1, 5), cleared ? 33 : then == RELEASING && state == ASKED ? 96 : cause);
        boolean answers = type == RELEASE || type == CONNECT && then != state;
        due.same(what + ": answers", x.line(0, 1) + x.line(0, 8) - said, answers ? 1 : 0);
    }

    /**
     * A call of end 1 at the switch in a state: 3 of the end's reference 70, 6 and 9 of the switch's reference 2, 10 and 11
     * of its reference 1. What is told to end 1 is lost.
     */
    private static CellSwitch switchIn(int state) {
        CellSwitch x;
        if (state == PROCEEDS) {
            x = Inject.open();
            x.policy(0, 1, 30);
            toSwitch(x, Inject.message(SETUP, true, 70, setupElements(0, 1)));
        } else if (state == PRESENT || state == PRESENTED) {
            x = present();
            if (state == PRESENTED) {
                Link.lose(x, 3, 0, 4);
                toSwitch(x, Inject.message(PROCEEDING, false, 2, NO_ELEMENTS));
            }
        } else {
            x = Inject.open();
            if (state == RELEASING) {
                x.hang(0, 0);
                x.tick(1);
            }
        }
        silent(x, 3, 1);
        return x;
    }

    private static int[] ofState(int state, int type, int[] elements) {
        return Inject.message(type, state == PROCEEDS, state == PROCEEDS ? 70 : state < ACTIVE ? 2 : 1, elements);
    }

    private static void term4EachMessageInEachStateOfTheSwitch() {
        due.of("Term 4, 'what a call's state does not name (PROCEEDING in 3, CONFIRM at the switch)', THE SWITCH");
        int[] states = {PROCEEDS, PRESENT, PRESENTED, ACTIVE, RELEASING};
        int[] types = {PROCEEDING, CONNECT, CONFIRM, RELEASE, COMPLETE};
        for (int state : states) {
            for (int type : types) {
                CellSwitch x = switchIn(state);
                int calls = x.link(1, 0, 0);
                int joined = x.link(1, 2, 0);
                int said = x.line(3, 1) + x.line(3, 8);
                boolean clears = type == RELEASE || type == COMPLETE;
                boolean connects = type == CONNECT && (state == PRESENT || state == PRESENTED);
                Link.lose(x, 3, 0, 4);
                toSwitch(x, ofState(state, type, clears ? cause(33) : NO_ELEMENTS));
                String what = type + " in " + state;
                due.same(what + ": calls", x.link(1, 0, 0), clears ? calls - 1 : calls);
                due.same(what + ": joined", x.link(1, 2, 0),
                    connects ? joined + 1 : clears && state == ACTIVE ? joined - 1 : joined);
                due.same(what + ": CONFIRM, COMPLETE", x.line(3, 1) + x.line(3, 8) - said,
                    connects || type == RELEASE ? 1 : 0);
            }
        }
    }

    private static void term4TheOtherSidesCall() {
        due.of("Term 4, 'RELEASE, COMPLETE of one: the other side's call, if it is not 11 or over, is RELEASED with that cause'");
        int[] states = {PROCEEDS, PRESENT, PRESENTED, ACTIVE, RELEASING};
        int[] types = {RELEASE, COMPLETE};
        for (int state : states) {
            for (int type : types) {
                CellSwitch x = switchIn(state);
                int call = state == ACTIVE || state == RELEASING ? 0 : 1;
                int said = x.line(2, 1) + x.line(2, 8);
                Link.lose(x, 3, 0, 4);
                toSwitch(x, ofState(state, type, cause(33)));
                due.same("RELEASE of " + type + " in " + state, x.line(2, 1) + x.line(2, 8) - said, state == RELEASING ? 0 : 1);
                x.tick(2);
                due.same("over at the other end", x.about(0, call, 0), OVER);
                due.same("its cause", x.about(0, call, 5), state == RELEASING ? 16 : 33);
            }
        }
    }

    private static void term4SetupOfTheSwitchThatIsNotOver() {
        due.of("Term 4, 'SETUP makes a call ..; SETUP of one that is not over is nothing', THE SWITCH");
        CellSwitch x = switchIn(PROCEEDS);
        due.link("a call", x, 1, 2, 2, 1);
        int said = x.line(3, 1) + x.line(3, 8);
        Link.lose(x, 3, 0, 4);
        toSwitch(x, Inject.message(SETUP, true, 70, setupElements(0, 1)));
        due.link("not another", x, 1, 2, 2, 1);
        due.same("no answer", x.line(3, 1) + x.line(3, 8), said);
        Link.lose(x, 3, 0, 4);
        toSwitch(x, Inject.message(COMPLETE, true, 70, cause(33)));
        due.link("over", x, 1, 1, 1, 1);
        Link.lose(x, 3, 0, 4);
        x.tick(2);
        Link.lose(x, 3, 0, 4);
        toSwitch(x, Inject.message(SETUP, true, 70, setupElements(0, 1)));
        due.link("another call of that reference", x, 1, 2, 2, 1);
        x.tick(1);
        due.call("it comes to the end called with another reference", x, 0, 2, PRESENT, 1002, 33);
    }

    private static void term4CauseOfOneThatIsReleasing() {
        due.of("Term 4, '(one that is RELEASING keeps its own with both)'");
        int[] types = {RELEASE, COMPLETE};
        for (int type : types) {
            CellSwitch x = endIn(RELEASING, true);
            toEnd(x, Inject.message(type, false, 2, cause(33)));
            due.call("over with its own", x, 0, 1, OVER, 2, -2, 1, 1, 16);
            x = endIn(ASKED, true);
            toEnd(x, Inject.message(type, false, 2, cause(255)));
            due.call("over with that", x, 0, 1, OVER, 2, -2, 1, 1, 255);
        }
    }

    private static void term4ReferencesThatAreOverOrNone() {
        due.of("Term 4, 'Of a reference that is over, or none: RELEASE is answered by COMPLETE 81'");
        int[] types = {PROCEEDING, CONNECT, CONFIRM, RELEASE, COMPLETE};
        for (int type : types) {
            for (int own = 0; own < 2; own++) {
                CellSwitch x = Inject.quiet();
                int[] elements = type == PROCEEDING ? Inject.element(90, 0, 77)
                    : type == RELEASE || type == COMPLETE ? cause(33) : NO_ELEMENTS;
                toEnd(x, Inject.message(type, own == 0, 2, elements));
                due.same("no call of " + type, x.calls(0), 1);
                due.same("an answer to RELEASE alone", x.line(0, 8), type == RELEASE ? 1 : 0);
                CellSwitch y = Inject.open();
                toSwitch(y, Inject.message(type, own == 0, 2, type == PROCEEDING ? NO_ELEMENTS : elements));
                due.link("no call of " + type, y, 1, 1, 1, 1);
                due.same("an answer of the switch to RELEASE alone", y.line(3, 8), type == RELEASE ? 1 : 0);
            }
        }
        // the switch: a reference that is over
        CellSwitch y = Inject.open();
        toSwitch(y, Inject.message(RELEASE, false, 1, cause(33)));
        due.link("over", y, 1, 0, 0, 0);
        due.same("COMPLETE 33", y.line(3, 8), 1);
        Link.lose(y, 3, 0, 4);
        toSwitch(y, Inject.message(RELEASE, false, 1, cause(33)));
        due.same("COMPLETE 81", y.line(3, 8), 1);
    }

    // ---- timers

    private static void silent(CellSwitch x, int direction, int ticks) {
        for (int t = 0; t < ticks; t++) {
            Link.lose(x, direction, 0, 4);
            x.tick(1);
        }
    }

    private static void term4SetupEightTicksBehind() {
        due.of("Term 4, 'SETUP, ASKED; 8 ticks behind SETUP again, 8 more: over (102)'");
        CellSwitch x = Inject.quiet();
        int said = x.line(0, 1);
        x.call(0, 1, 1);
        silent(x, 1, 7);
        due.same("SETUP once at 32", x.line(0, 1) - said, 1);
        silent(x, 1, 1);
        due.same("SETUP again at 33", x.line(0, 1) - said, 2);
        silent(x, 1, 7);
        due.call("ASKED at 40", x, 0, 1, ASKED, 2, -2, 1, 1, 0);
        due.same("not once more", x.line(0, 1) - said, 2);
        silent(x, 1, 1);
        due.call("over at 41", x, 0, 1, OVER, 2, -2, 1, 1, 102);
        due.same("no RELEASE", x.line(0, 1) - said, 2);
        // PROCEEDING a tick before, and a tick too late
        for (int late = 0; late <= 1; late++) {
            CellSwitch y = Inject.quiet();
            y.tick(17);
            y.call(0, 1, 1);
            silent(y, 0, 13 + late);
            due.call("ASKED since 42", y, 0, 1, ASKED);
            toEnd(y, Inject.message(PROCEEDING, false, 2, Inject.element(90, 0, 40)));
            due.call("PROCEEDING at " + (57 + late), y, 0, 1, late == 0 ? PROCEEDS : OVER, 2, late == 0 ? 40 : -2);
            y.tick(1);
            due.same("its cause", y.about(0, 1, 5), late == 0 ? 0 : 102);
        }
    }

    private static void term4ProceedingFortyTicksBehind() {
        due.of("Term 4, 'PROCEEDING: 3 (in ASKED), with the channel; 40 ticks behind: RELEASE 102'");
        CellSwitch x = asked();
        toEnd(x, Inject.message(PROCEEDING, false, 2, Inject.element(90, 0, 40)));
        due.call("PROCEEDING at 27", x, 0, 1, PROCEEDS, 2, 40, 1, 1, 0);
        // SETUP does not come to the switch at all: what was sent is gone
        x.reset(0);
        x.tick(39);
        due.call("at 66", x, 0, 1, PROCEEDS, 2, 40, 1, 1, 0);
        x.tick(1);
        due.call("at 67", x, 0, 1, RELEASING, 2, 40, 1, 1, 102);
    }

    private static void term4ConfirmTenTicksBehind() {
        due.of("Term 4, 'CONFIRM: in 8 ACTIVE; 10 ticks behind without: RELEASE 102'");
        int[] policies = {0, 1};
        for (int kind : policies) {
            CellSwitch x = Inject.quiet();
            x.policy(0, kind, 1);
            toEnd(x, Inject.message(SETUP, true, 70, setupElements(0, 1, 1, 40)));
            due.call("at 27", x, 0, 1, kind == 0 ? ANSWERED : PRESENT);
            x.tick(kind == 0 ? 9 : 10);
            due.call("9 ticks behind CONNECT", x, 0, 1, ANSWERED, 1070, 40, 1, 1, 0);
            x.tick(1);
            due.call("10 ticks behind CONNECT", x, 0, 1, RELEASING, 1070, 40, 1, 1, 102);
            // CONFIRM in time
            CellSwitch y = Inject.quiet();
            y.policy(0, kind, 1);
            toEnd(y, Inject.message(SETUP, true, 70, setupElements(0, 1, 1, 40)));
            y.tick(kind == 0 ? 7 : 8);
            toEnd(y, Inject.message(CONFIRM, true, 70, NO_ELEMENTS));
            due.call("CONFIRM 9 ticks behind", y, 0, 1, ACTIVE);
            y.tick(5);
            due.call("ACTIVE stays", y, 0, 1, ACTIVE, 1070, 40, 1, 1, 0);
        }
    }

    private static void term4ReleaseTenTicksBehind() {
        due.of("Term 4, 'RELEASE (sent): RELEASING; 10 ticks behind RELEASE again, 10 more: over'");
        CellSwitch x = Inject.quiet();
        int said = x.line(0, 1);
        x.hang(0, 0);
        silent(x, 1, 9);
        due.same("RELEASE once at 34", x.line(0, 1) - said, 1);
        silent(x, 1, 1);
        due.same("RELEASE again at 35", x.line(0, 1) - said, 2);
        silent(x, 1, 9);
        due.call("at 44", x, 0, 0, RELEASING, 1, 32, 1, 1, 16);
        silent(x, 1, 1);
        due.call("at 45", x, 0, 0, OVER, 1, 32, 1, 1, 16);
        due.same("twice in all", x.line(0, 1) - said, 2);
        // the switch: RELEASE to an end that does not answer
        CellSwitch y = Inject.open();
        y.hang(0, 0);
        Link.lose(y, 3, 0, 4);
        y.tick(1);
        due.link("RELEASING at the other link since 26", y, 1, 1, 1, 0);
        silent(y, 3, 19);
        due.link("at 45", y, 1, 1, 1, 0);
        silent(y, 3, 1);
        due.link("at 46", y, 1, 0, 0, 0);
    }

    private static void term4SetupOfTheSwitchEightTicksBehind() {
        due.of("Term 4, 'SETUP to the other end (6; 8 ticks behind again, 8 more: RELEASE 102 to e, here over)'");
        CellSwitch x = Inject.quiet();
        int said = x.line(3, 1);
        x.call(0, 1, 1);
        x.tick(1);
        due.link("let through at 26", x, 1, 2, 2, 1);
        silent(x, 3, 7);
        due.same("SETUP once at 33", x.line(3, 1) - said, 1);
        silent(x, 3, 1);
        due.same("SETUP again at 34", x.line(3, 1) - said, 2);
        silent(x, 3, 7);
        due.link("at 41", x, 1, 2, 2, 1);
        due.call("at 41", x, 0, 1, PROCEEDS, 2, 33, 1, 1, 0);
        silent(x, 3, 1);
        due.link("here over at 42", x, 1, 1, 1, 1);
        due.link("RELEASING to the other one", x, 0, 2, 2, 1);
        silent(x, 3, 1);
        due.call("RELEASE 102", x, 0, 1, OVER, 2, 33, 1, 1, 102);
        due.same("no RELEASE to the end called", x.line(3, 1) - said, 2);
    }

    private static void term4PresentedFortyTicksBehind() {
        due.of("Term 4, 'PROCEEDING of that: 9; 40 ticks behind: RELEASE 102 both ways'");
        CellSwitch x = Inject.open();
        x.call(0, 1, 1);
        x.tick(1);
        // PROCEEDING to end 0 comes late, so that its own 40 ticks are not over first; SETUP to end 1 is gone
        Link.lose(x, 3, 0, 4);
        silent(x, 1, 1);
        x.reset(3);
        silent(x, 1, 2);
        due.call("ASKED at 29", x, 0, 1, ASKED);
        due.line("READY anew at 29", x, 3, 2, 0, 0, 8, 0, 0, 0, 0);
        Inject.data(x, 0, Inject.message(PROCEEDING, false, 2, NO_ELEMENTS));
        silent(x, 1, 1);
        due.same("PROCEEDING came at 30", x.line(3, 6), 1);
        x.tick(39);
        due.call("at 69", x, 0, 1, PROCEEDS, 2, 33, 1, 1, 0);
        due.link("at 69", x, 1, 2, 2, 1);
        due.same("SETUP was not told again", x.line(3, 1), 0);
        x.tick(1);
        due.same("RELEASE to the end called at 70", x.line(3, 1), 1);
        due.same("RELEASE to the other end waits", x.line(2, 8), 1);
        due.link("RELEASING", x, 1, 2, 2, 1);
        x.tick(1);
        due.call("RELEASE 102 at 71", x, 0, 1, OVER, 2, 33, 1, 1, 102);
        x.tick(1);
        due.link("COMPLETE of both", x, 1, 1, 1, 1);
        due.link("COMPLETE of both", x, 0, 1, 1, 1);
    }

    // ---- limits

    private static void term4EightThatAreNotOver() {
        due.of("Term 4, 'with 8 calls that are not over .. COMPLETE 47, and no call'");
        for (int kind = 0; kind <= 2; kind++) {
            CellSwitch x = Inject.quiet();
            for (int i = 1; i <= 6; i++) {
                x.call(0, 1, 1);
            }
            Link.lose(x, 0, 0, 8);
            x.policy(0, kind, 30);
            toEnd(x, Inject.message(SETUP, true, 70, setupElements(0, 1, 1, 40)));
            due.same("with 7", x.calls(0), 8);
            due.same("how it is", x.about(0, 7, 0), kind == 0 ? ANSWERED : kind == 1 ? PRESENT : OVER);
            int said = x.line(0, 1) + x.line(0, 8);
            toEnd(x, Inject.message(SETUP, true, 71, setupElements(0, 1, 1, 41)));
            due.same("with " + (kind == 2 ? 7 : 8), x.calls(0), kind == 2 ? 9 : 8);
            due.same("an answer", x.line(0, 1) + x.line(0, 8) - said, 1);
        }
        // the end that calls is told 47
        for (int others = 6; others <= 8; others++) {
            CellSwitch x = Link.synced(3);
            x.call(2, 0, 1);
            x.tick(5);
            for (int i = 0; i < others; i++) {
                x.call(0, 1, 1);
            }
            x.tick(15);
            due.same("with " + others + ", how it is", x.about(2, 0, 0), others < 8 ? ACTIVE : OVER);
            due.same("its cause", x.about(2, 0, 5), others < 8 ? 0 : 47);
            due.same("calls of the end called", x.calls(0), others < 8 ? others + 1 : 8);
        }
    }

    private static void term4FortyInAll() {
        due.of("Term 4, 'or 40 in all, COMPLETE 47, and no call'");
        CellSwitch x = Link.synced(3);
        for (int i = 0; i < 38; i++) {
            x.call(0, 1, 5);
            x.tick(3);
        }
        x.tick(10);
        due.same("38", x.calls(0), 38);
        x.call(2, 0, 1);
        x.tick(10);
        due.call("the 39th", x, 2, 0, ACTIVE);
        due.call("the 39th", x, 0, 38, ACTIVE, 1001);
        x.policy(0, 2, 1);
        x.call(2, 0, 1);
        x.tick(10);
        due.call("the 40th, refused by the policy", x, 2, 1, OVER, 2, 33, 1, 0, 17);
        due.call("the 40th, refused by the policy", x, 0, 39, OVER, 1002, 33, 1, 2, 17);
        due.same("40", x.calls(0), 40);
        x.call(2, 0, 1);
        x.tick(10);
        due.call("the 41st", x, 2, 2, OVER, 3, 33, 1, 0, 47);
        due.same("40", x.calls(0), 40);
        x.policy(0, 0, 1);
        x.call(2, 0, 1);
        x.tick(10);
        due.call("whatever the policy", x, 2, 3, OVER, 4, 33, 1, 0, 47);
        due.full("nor can it call", x.call(0, 1, 1));
    }

    /** SETUP of end 1 with these, of a switch of some ends; its cause then, 0 if it is let through. */
    private static int refusal(int ends, int called, int rate) {
        CellSwitch x = Link.synced(ends);
        x.call(1, 0, 1);
        // BEGIN is cell 0 of direction 2, SETUP cell 8
        int[] change = {13, called, 18, 1 ^ rate};
        if (called == 0 && rate != 1) {
            change = new int[] {18, 1 ^ rate};
        } else if (rate == 1 && called != 0) {
            change = new int[] {13, called};
        }
        if (called != 0 || rate != 1) {
            Link.change(x, 2, 8, change);
        }
        x.tick(4);
        due.same("let through or not", x.link(1, 0, 0), x.about(1, 0, 5) == 0 ? 1 : 0);
        return x.about(1, 0, 5);
    }

    private static void term4TheEndCalled() {
        due.of("Term 4, 'the end called is none, or e: COMPLETE 1'");
        for (int ends = 2; ends <= 4; ends++) {
            due.same("the first of " + ends, refusal(ends, 0, 1), 0);
            due.same("itself of " + ends, refusal(ends, 1, 1), 1);
            due.same("the last of " + ends, refusal(ends, ends - 1, 1), ends == 2 ? 1 : 0);
            due.same("behind the last of " + ends, refusal(ends, ends, 1), 1);
            due.same("the highest of " + ends, refusal(ends, 255, 1), 1);
            due.same("before the rate", refusal(ends, ends, 0), 1);
            due.same("before the rate", refusal(ends, 1, 4), 1);
        }
    }

    private static void term4TheRate() {
        due.of("Term 4, 'the rate is not 1 .. 3: COMPLETE 96'");
        int[][] rates = {{0, 96}, {1, 0}, {2, 0}, {3, 0}, {4, 96}, {5, 96}, {255, 96}};
        for (int[] rate : rates) {
            due.same("rate " + rate[0], refusal(3, 0, rate[0]), rate[1]);
        }
        // before 37
        CellSwitch x = Link.connected(3);
        x.call(0, 1, 4);
        x.tick(5);
        due.call("96, not 37", x, 0, 1, OVER, 2, -2, 4, 1, 96);
    }

    private static void term4RatesTogetherAbove3() {
        due.of("Term 4, 'the rates of the calls of one of both links together above 3: COMPLETE 37'");
        for (int first = 1; first <= 3; first++) {
            for (int second = 1; second <= 3; second++) {
                // the same link of the end that calls, the same of the end called, and the other way round
                int[][] ends = {{0, 1, 0, 2}, {0, 1, 2, 1}, {0, 1, 1, 2}, {0, 1, 2, 0}, {0, 1, 2, 3}};
                for (int[] e : ends) {
                    CellSwitch x = Link.synced(4);
                    x.call(e[0], e[1], first);
                    x.tick(12);
                    int call = x.call(e[2], e[3], second);
                    x.tick(12);
                    boolean fits = e[3] == 3 || first + second <= 3;
                    String what = first + " and " + second + " of " + Arrays.toString(e);
                    due.same(what, x.about(e[2], call, 0), fits ? ACTIVE : OVER);
                    due.same(what, x.about(e[2], call, 5), fits ? 0 : 37);
                    due.same("rates of the link", x.link(e[2], 1, 0),
                        (fits ? second : 0) + (e[2] == 0 || e[2] == 1 ? first : 0));
                }
            }
        }
    }

    private static void term4TheLeastChannel() {
        due.of("Term 4, 'the least channel from 32 on that no call of it has'");
        CellSwitch x = Link.synced(2);
        for (int i = 0; i < 3; i++) {
            x.call(0, 1, 1);
        }
        x.tick(12);
        for (int i = 0; i < 3; i++) {
            due.call("channels", x, 0, i, ACTIVE, i + 1, 32 + i);
            due.same("the first is 32", x.link(0, 3, 32 + i), 1032 + i);
        }
        due.none("31", x.link(0, 3, 31));
        due.none("35", x.link(0, 3, 35));
        // the one between, then the first, then the last is free
        int[] freed = {1, 0, 2};
        int[] now = {0, 1, 2};
        for (int i = 0; i < 3; i++) {
            x.hang(0, now[freed[i]]);
            x.tick(6);
            int call = x.call(0, 1, 1);
            x.tick(8);
            due.call("the one that is free", x, 0, call, ACTIVE, call + 1, 32 + freed[i]);
            now[freed[i]] = call;
        }
    }

    private static void term4RefusedCallsUseNoReference() {
        due.of("Term 4, 'References of a side are 1, 2, .. as it makes them'");
        CellSwitch x = Link.synced(3);
        x.call(0, 1, 3);
        x.tick(12);
        x.call(2, 1, 1);
        x.call(2, 1, 4);
        x.tick(12);
        due.call("refused", x, 2, 0, OVER, 1, -2, 1, 1, 37);
        due.call("refused", x, 2, 1, OVER, 2, -2, 4, 1, 96);
        due.same("not told to the end called", x.calls(1), 1);
        x.hang(0, 0);
        x.tick(6);
        x.call(2, 1, 1);
        x.tick(10);
        due.call("its own third", x, 2, 2, ACTIVE, 3, 32);
        due.call("the second of that side of the switch", x, 1, 1, ACTIVE, 1002, 32);
        x.call(1, 2, 1);
        x.tick(10);
        due.call("its own first", x, 1, 2, ACTIVE, 1, 33);
        due.call("the first of the other side", x, 2, 3, ACTIVE, 1001, 33);
    }

    private static void term4FreeWhenOver() {
        due.of("Term 4, 'A call's rate and channel are free when it is over at that side'");
        CellSwitch x = Link.connected(3);
        x.tick(5);
        x.hang(1, 0);
        x.tick(1);
        due.link("over at the side of end 1", x, 1, 0, 0, 0);
        due.link("RELEASING at the side of end 0", x, 0, 1, 3, 0);
        // a SETUP that comes now does not fit at link 0; one that comes two ticks later does
        CellSwitch y = Link.connected(3);
        y.tick(5);
        y.hang(1, 0);
        y.call(1, 0, 1);
        y.tick(2);
        due.call("SETUP came with RELEASE: RELEASING has its rate", y, 1, 1, OVER, 1, -2, 1, 0, 37);
        y.tick(1);
        due.link("COMPLETE came", y, 0, 0, 0, 0);
        y.call(1, 0, 3);
        y.tick(8);
        due.call("it fits now", y, 1, 2, ACTIVE, 2, 32);
    }

    private static void term4JoinedTillOneIsReleased() {
        due.of("Term 4, 'the channels are JOINED till one of both is 11 or over'");
        for (int e = 0; e < 2; e++) {
            CellSwitch x = Inject.quiet();
            due.link("joined", x, 0, 1, 1, 1);
            x.hang(e, 0);
            due.link("RELEASE is not there yet", x, 0, 1, 1, 1);
            x.tick(1);
            due.link("over at one side", x, e, 0, 0, 0);
            due.link("11 at the other one", x, 1 - e, 1, 1, 0);
            due.none("not joined", x.link(1 - e, 3, 32));
        }
        CellSwitch x = Link.synced(2);
        x.policy(1, 1, 5);
        x.call(0, 1, 1);
        x.tick(10);
        due.link("not before CONNECT", x, 0, 1, 1, 0);
        x.tick(1);
        due.link("with CONNECT", x, 0, 1, 1, 1);
    }

    private static void term4ASideThatIsCut() {
        due.of("Term 4, 'A side that is CUT: all its calls (RELEASING ones, too) are over with 41'");
        CellSwitch x = Link.synced(2);
        x.call(0, 1, 1);
        x.call(0, 1, 1);
        x.call(0, 1, 5);
        x.tick(15);
        due.call("refused", x, 0, 2, OVER, 3, -2, 5, 1, 96);
        x.call(0, 1, 1);
        x.hang(0, 1);
        Link.lose(x, 0, 0, 8);
        x.quit(0);
        due.call("ACTIVE", x, 0, 0, OVER, 1, 32, 1, 1, 41);
        due.call("RELEASING", x, 0, 1, OVER, 2, 33, 1, 1, 41);
        due.call("one that was over stays", x, 0, 2, OVER, 3, -2, 5, 1, 96);
        due.call("ASKED", x, 0, 3, OVER, 4, -2, 1, 1, 41);
    }

    private static void term4TheSwitchThatIsCut() {
        due.of("Term 4, '(the switch: the others of them RELEASED with 41)'");
        CellSwitch x = Link.synced(3);
        x.call(0, 1, 1);
        x.call(2, 0, 1);
        x.call(1, 2, 1);
        x.tick(15);
        due.link("all joined", x, 0, 2, 2, 2);
        x.hang(2, 0);
        x.tick(1);
        due.link("RELEASING at link 0", x, 0, 2, 2, 1);
        Link.lose(x, 1, 0, 4);
        x.quit(3);
        due.link("all over at link 0", x, 0, 0, 0, 0);
        due.link("RELEASING at link 1", x, 1, 2, 2, 1);
        due.link("over already at link 2", x, 2, 1, 1, 1);
        x.tick(1);
        due.call("RELEASE 41", x, 1, 1, OVER, 1001, 32, 1, 0, 41);
        due.call("the others stay", x, 1, 0, ACTIVE, 1, 33, 1, 2, 0);
        due.call("COMPLETE 16", x, 2, 0, OVER, 1, 33, 1, 0, 16);
    }

    private static void term4AMessageThatIsRefused() {
        due.of("Term 4, 'A message that is refused (10 wait) is not sent'");
        CellSwitch x = Link.synced(2);
        for (int i = 0; i < 8; i++) {
            x.call(0, 1, 1);
        }
        due.same("the 9th", x.hang(0, 0), 1);
        due.same("the 10th", x.hang(0, 1), 1);
        due.same("the 11th is refused", x.hang(0, 2), 1);
        due.call("RELEASING all the same", x, 0, 2, RELEASING, 3, -2, 1, 1, 16);
        x.tick(9);
        due.link("RELEASE of 0 and 1 came, not of 2", x, 0, 1, 1, 1);
        due.call("nothing of it is known there", x, 1, 2, ACTIVE);
        due.call("CONNECT is nothing to it", x, 0, 2, RELEASING);
        x.tick(1);
        due.link("RELEASE again at 20", x, 0, 0, 0, 0);
        x.tick(1);
        due.call("COMPLETE", x, 0, 2, OVER, 3, -2, 1, 1, 16);
        // SETUP told again is refused alike
        CellSwitch y = Link.synced(2);
        Link.lose(y, 0, 0, 8);
        for (int i = 0; i < 8; i++) {
            y.call(0, 1, 5);
        }
        silent(y, 0, 7);
        due.same("8 wait for BEGUN", y.line(0, 8), 8);
        silent(y, 0, 1);
        due.same("8 SETUPs again at 18, 6 of them refused", y.line(0, 8), 10);
        y.tick(12);
        due.same("10 came, the last two of references 1 and 2", y.line(2, 6), 10);
    }
}
