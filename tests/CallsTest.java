/** Promises 5 (call), 6 (hang), 7 (policy), 9 (about), 10 (calls) and 13 (link). */
public final class CallsTest {
    private static final Expect due = new Expect("CallsTest");

    public static void main(String[] args) {
        wrongInputs();
        aCallIsMade();
        policies();
        aCallIsHung();
        aCallIsHungBeforeTheAnswer();
        ratesAndChannels();
        refusedRates();
        manyCalls();
        fortyCalls();
        setupIsNotAnswered();
        releaseIsNotAnswered();
        anEndThatIsNotThere();
        anAnswerThatDoesNotCome();
        setupAfterTheEnd();
        eightCallsAtTheEndCalled();
        tenMessagesWait();
        aLateAnswer();
        fortyTicks();
        timersBeginAnew();
        setupAfterTheEndIsAnotherCall();
        due.end();
    }

    private static void wrongInputs() {
        CellSwitch x = Link.synced(3);
        due.bad("call from -1", x.call(-1, 1, 1));
        due.bad("call from 3", x.call(3, 1, 1));
        due.bad("call to -1", x.call(0, -1, 1));
        due.bad("call to 3", x.call(0, 3, 1));
        due.bad("call to itself", x.call(2, 2, 1));
        due.bad("rate 0", x.call(0, 1, 0));
        due.bad("rate 6", x.call(0, 1, 6));
        due.same("no call is made", x.calls(0), 0);
        due.bad("calls(-1)", x.calls(-1));
        due.bad("calls(3)", x.calls(3));
        due.bad("hang without calls", x.hang(0, 0));
        due.same("call", x.call(0, 1, 1), 0);
        due.bad("hang(0, -1)", x.hang(0, -1));
        due.bad("hang(0, 1)", x.hang(0, 1));
        due.bad("hang(3, 0)", x.hang(3, 0));
        due.bad("hang(-1, 0)", x.hang(-1, 0));
        due.bad("about(0, 1, 0)", x.about(0, 1, 0));
        due.bad("about(0, -1, 0)", x.about(0, -1, 0));
        due.bad("about(3, 0, 0)", x.about(3, 0, 0));
        due.bad("about(0, 0, 7)", x.about(0, 0, 7));
        due.bad("about(0, 0, -1)", x.about(0, 0, -1));
        due.bad("policy(-1, 0, 1)", x.policy(-1, 0, 1));
        due.bad("policy(3, 0, 1)", x.policy(3, 0, 1));
        due.bad("policy kind -1", x.policy(0, -1, 1));
        due.bad("policy kind 3", x.policy(0, 3, 1));
        due.bad("0 ticks", x.policy(0, 1, 0));
        due.bad("31 ticks", x.policy(0, 1, 31));
        due.same("1 tick", x.policy(0, 1, 1), 1);
        due.same("30 ticks", x.policy(0, 1, 30), 1);
        due.same("ticks are of 1 alone", x.policy(0, 0, 0), 1);
        due.same("ticks are of 1 alone", x.policy(0, 2, 99), 1);
        due.bad("link(-1, 0, 0)", x.link(-1, 0, 0));
        due.bad("link(3, 0, 0)", x.link(3, 0, 0));
        due.bad("link(0, 4, 0)", x.link(0, 4, 0));
        due.bad("link(0, -1, 0)", x.link(0, -1, 0));
    }

    private static void links(String when, CellSwitch x, int e, int calls, int rates, int joined) {
        due.same(when + ": link(" + e + ", 0)", x.link(e, 0, 0), calls);
        due.same(when + ": link(" + e + ", 1)", x.link(e, 1, 0), rates);
        due.same(when + ": link(" + e + ", 2)", x.link(e, 2, 0), joined);
    }

    private static void aCallIsMade() {
        CellSwitch x = Link.synced(3);
        due.same("call", x.call(0, 2, 2), 0);
        due.same("calls", x.calls(0), 1);
        due.call("ASKED", x, 0, 0, 1, 1, -2, 2, 2, 0, 0);
        x.tick(3);
        links("the switch lets it through", x, 0, 1, 2, 0);
        links("the switch lets it through", x, 2, 1, 2, 0);
        due.same("NONE is joined", x.link(0, 3, 32), CellSwitch.NONE);
        due.call("ASKED", x, 0, 0, 1);
        x.tick(1);
        due.call("PROCEEDING", x, 0, 0, 3, 1, 32, 2, 2, 0, 0);
        x.tick(2);
        due.same("it is called", x.calls(2), 1);
        due.call("ANSWERED", x, 2, 0, 8, 1001, 32, 2, 0, 0, 0);
        x.tick(1);
        links("CONNECT came", x, 0, 1, 2, 1);
        links("CONNECT came", x, 2, 1, 2, 1);
        due.call("PROCEEDING still", x, 0, 0, 3);
        x.tick(1);
        due.call("ACTIVE", x, 0, 0, 10, 1, 32, 2, 2, 0, 0);
        due.call("ACTIVE", x, 2, 0, 10, 1001, 32, 2, 0, 0, 0);
        due.same("joined", x.link(0, 3, 32), 2032);
        due.same("joined", x.link(2, 3, 32), 32);
        due.same("not joined", x.link(1, 3, 32), CellSwitch.NONE);
        due.same("not joined", x.link(0, 3, 33), CellSwitch.NONE);
        due.same("no channel", x.link(0, 3, -2), CellSwitch.NONE);
    }

    private static void policies() {
        CellSwitch x = Link.synced(2);
        x.policy(1, 1, 5);
        x.call(0, 1, 1);
        x.tick(6);
        due.call("PRESENT", x, 1, 0, 6, 1001, 32, 1, 0, 0, 0);
        // it is told for this call: a policy of later calls does not change it
        x.policy(1, 2, 1);
        x.tick(4);
        due.call("PRESENT", x, 1, 0, 6);
        x.tick(1);
        due.call("ANSWERED 5 ticks behind", x, 1, 0, 8);
        x.tick(1);
        due.call("ACTIVE", x, 0, 0, 10);
        due.same("call", x.call(0, 1, 1), 1);
        x.tick(2);
        due.call("refused by policy 2", x, 1, 1, 0, 1002, 33, 1, 0, 17);
        x.tick(2);
        due.call("COMPLETE, RELEASE 17", x, 0, 1, 0, 2, 33, 1, 1, 17);
        links("RELEASING till COMPLETE comes", x, 0, 2, 2, 1);
        links("one is left", x, 1, 1, 1, 1);
        due.call("the first call stays", x, 0, 0, 10);
        x.policy(1, 0, 1);
        x.call(0, 1, 1);
        x.tick(4);
        due.call("policy 0 again, with the channel that is free", x, 0, 2, 10, 3, 33);
    }

    private static void aCallIsHung() {
        CellSwitch x = Link.connected(1);
        due.same("hang", x.hang(1, 0), 1);
        due.call("RELEASING, with its cause", x, 1, 0, 11, 1001, 32, 1, 0, 16);
        due.same("hang again", x.hang(1, 0), 0);
        x.tick(1);
        links("over there, RELEASING here", x, 1, 0, 0, 0);
        links("over there, RELEASING here", x, 0, 1, 1, 0);
        due.same("joined no more", x.link(0, 3, 32), CellSwitch.NONE);
        due.call("ACTIVE still", x, 0, 0, 10);
        x.tick(1);
        due.call("COMPLETE came", x, 1, 0, 0, 1001, 32, 1, 0, 16);
        due.call("RELEASE came", x, 0, 0, 0, 1, 32, 1, 1, 16);
        due.same("hang of one that is over", x.hang(0, 0), 0);
        x.tick(1);
        links("all over", x, 0, 0, 0, 0);
    }

    private static void aCallIsHungBeforeTheAnswer() {
        CellSwitch x = Link.synced(2);
        x.call(0, 1, 1);
        due.same("hang of ASKED", x.hang(0, 0), 1);
        x.tick(3);
        links("SETUP and RELEASE came together", x, 0, 0, 0, 0);
        links("the other side is RELEASING", x, 1, 1, 1, 0);
        x.tick(1);
        due.call("COMPLETE", x, 0, 0, 0, 1, -2, 1, 1, 16);
        x.tick(2);
        due.call("SETUP, then RELEASE 16", x, 1, 0, 0, 1001, 32, 1, 0, 16);
        x.tick(1);
        // CONNECT is nothing for one that is RELEASING
        links("COMPLETE came", x, 1, 0, 0, 0);
        // both hang at once: each keeps its own cause
        CellSwitch y = Link.connected(1);
        y.hang(0, 0);
        y.hang(1, 0);
        y.tick(2);
        due.call("over", y, 0, 0, 0, 1, 32, 1, 1, 16);
        due.call("over", y, 1, 0, 0, 1001, 32, 1, 0, 16);
    }

    private static void ratesAndChannels() {
        CellSwitch x = Link.synced(3);
        x.call(0, 1, 1);
        x.call(0, 2, 1);
        x.call(0, 1, 1);
        x.call(0, 2, 1);
        x.tick(12);
        due.call("first", x, 0, 0, 10, 1, 32);
        due.call("second", x, 0, 1, 10, 2, 33);
        due.call("third", x, 0, 2, 10, 3, 34);
        due.call("above 3 at its own link", x, 0, 3, 0, 4, -2, 1, 2, 37);
        due.call("least channel of that link", x, 1, 0, 10, 1001, 32);
        due.call("least channel of that link", x, 1, 1, 10, 1002, 33);
        due.call("least channel of that link", x, 2, 0, 10, 1001, 32);
        due.same("joined", x.link(0, 3, 32), 1032);
        due.same("joined", x.link(0, 3, 33), 2032);
        due.same("joined", x.link(0, 3, 34), 1033);
        due.same("joined", x.link(1, 3, 33), 34);
        links("full", x, 0, 3, 3, 3);
        x.call(2, 0, 1);
        x.call(2, 1, 2);
        x.call(2, 1, 1);
        x.tick(5);
        due.call("above 3 at the link of the end called", x, 2, 1, 0, 1, -2, 1, 0, 37);
        due.call("above 3 at the link of the end called", x, 2, 2, 0, 2, -2, 2, 1, 37);
        due.call("just 3", x, 2, 3, 10, 3, 33);
        x.hang(0, 1);
        x.tick(3);
        x.call(0, 2, 1);
        x.tick(6);
        due.call("the channel that was freed", x, 0, 4, 10, 5, 33);
    }

    private static void refusedRates() {
        CellSwitch x = Link.synced(2);
        due.same("rate 4", x.call(0, 1, 4), 0);
        due.same("rate 5", x.call(0, 1, 5), 1);
        due.same("rate 3", x.call(0, 1, 3), 2);
        x.tick(8);
        due.call("refused", x, 0, 0, 0, 1, -2, 4, 1, 96);
        due.call("refused", x, 0, 1, 0, 2, -2, 5, 1, 96);
        due.call("let through", x, 0, 2, 10, 3, 32, 3, 1, 0);
        due.same("the other end has one", x.calls(1), 1);
    }

    private static void manyCalls() {
        CellSwitch x = Link.synced(2);
        for (int i = 0; i < 8; i++) {
            due.same("call " + i, x.call(0, 1, 1), i);
        }
        due.same("nine", x.call(0, 1, 1), CellSwitch.FULL);
        x.tick(9);
        due.call("37", x, 0, 3, 0, 4, -2, 1, 1, 37);
        due.same("three are open, a fourth may be asked for", x.call(0, 1, 1), 8);
    }

    private static void fortyCalls() {
        CellSwitch x = Link.synced(3);
        for (int i = 0; i < 40; i++) {
            due.same("call " + i, x.call(0, 1, 5), i);
            x.tick(5);
        }
        due.same("forty", x.calls(0), 40);
        due.same("one more", x.call(0, 1, 1), CellSwitch.FULL);
        due.bad("no such call", x.about(0, 40, 0));
        due.call("the last one", x, 0, 39, 0, 40, -2, 5, 1, 96);
        // nor can it be called
        x.call(2, 0, 1);
        x.tick(8);
        due.call("COMPLETE 47", x, 2, 0, 0, 1, 32, 1, 0, 47);
        due.same("forty still", x.calls(0), 40);
    }

    private static void setupIsNotAnswered() {
        CellSwitch x = Link.synced(2);
        x.call(0, 1, 1);
        for (int t = 11; t <= 25; t++) {
            Link.lose(x, 1, 0, 4);
            x.tick(1);
        }
        due.call("ASKED at 25", x, 0, 0, 1, 1, -2, 1, 1, 0);
        x.tick(1);
        due.call("over at 26", x, 0, 0, 0, 1, -2, 1, 1, 102);
    }

    private static void releaseIsNotAnswered() {
        CellSwitch x = Link.connected(1);
        x.hang(0, 0);
        for (int t = 21; t <= 39; t++) {
            Link.lose(x, 1, 0, 4);
            x.tick(1);
        }
        due.call("RELEASING at 39", x, 0, 0, 11, 1, 32, 1, 1, 16);
        Link.lose(x, 1, 0, 4);
        x.tick(1);
        due.call("over at 40", x, 0, 0, 0, 1, 32, 1, 1, 16);
        due.call("the other end", x, 1, 0, 0, 1001, 32, 1, 0, 16);
        // a reset, and what was sent is gone: RELEASE comes at the second time
        CellSwitch y = Link.connected(1);
        Link.lose(y, 0, 0, 4);
        y.hang(0, 0);
        y.tick(1);
        y.reset(0);
        y.tick(8);
        due.call("RELEASING at 29", y, 0, 0, 11);
        due.call("ACTIVE", y, 1, 0, 10);
        y.tick(2);
        due.call("RELEASE again at 30, COMPLETE", y, 0, 0, 0, 1, 32, 1, 1, 16);
        y.tick(1);
        due.call("RELEASE", y, 1, 0, 0, 1001, 32, 1, 0, 16);
    }

    /** The switch tells SETUP twice; then it gives up. */
    private static void anEndThatIsNotThere() {
        CellSwitch x = Link.synced(2);
        x.call(0, 1, 1);
        for (int t = 11; t <= 28; t++) {
            Link.lose(x, 3, 0, 4);
            x.tick(1);
        }
        links("PRESENT at 28", x, 1, 1, 1, 0);
        due.call("PROCEEDING", x, 0, 0, 3, 1, 32, 1, 1, 0);
        due.same("SETUP waits twice", x.line(3, 8), 2);
        Link.lose(x, 3, 0, 4);
        x.tick(1);
        links("over at 29", x, 1, 0, 0, 0);
        links("RELEASING to the end that calls", x, 0, 1, 1, 0);
        x.tick(1);
        due.call("RELEASE 102", x, 0, 0, 0, 1, 32, 1, 1, 102);
    }

    /** CONNECT does not come: the end that calls waits for 40 ticks, as the switch does. */
    private static void anAnswerThatDoesNotCome() {
        CellSwitch x = Link.synced(2);
        x.policy(1, 1, 2);
        x.call(0, 1, 1);
        x.tick(7);
        due.call("PRESENT at 17", x, 1, 0, 6);
        // the line loses CONNECT, as it is reset while CONNECT is under way
        Link.lose(x, 2, 0, 4);
        x.tick(1);
        due.call("ANSWERED at 18", x, 1, 0, 8);
        x.reset(1);
        x.tick(9);
        due.call("ANSWERED at 27", x, 1, 0, 8);
        due.call("PROCEEDING at 27", x, 0, 0, 3);
        x.tick(1);
        due.call("RELEASE 102 at 28", x, 1, 0, 11, 1001, 32, 1, 0, 102);
        x.tick(1);
        due.call("RELEASE 102 to the end that calls", x, 0, 0, 0, 1, 32, 1, 1, 102);
    }

    /** SETUP that comes again for a call that is over makes another one at the end called. */
    private static void setupAfterTheEnd() {
        CellSwitch x = Link.synced(2);
        x.policy(1, 2, 1);
        x.call(0, 1, 1);
        // BEGUN of end 1 does not come before 20: SETUP is told at 13 and 21, and both go at 21
        x.tick(3);
        for (int t = 14; t <= 19; t++) {
            Link.lose(x, 2, 0, 4);
            x.tick(1);
        }
        x.tick(2);
        due.same("two calls of one reference", x.calls(1), 2);
        due.call("the first", x, 1, 0, 0, 1001, 32, 1, 0, 17);
        due.call("the second", x, 1, 1, 0, 1001, 32, 1, 0, 17);
        x.tick(2);
        due.call("COMPLETE 17", x, 0, 0, 0, 1, 32, 1, 1, 17);
    }

    private static void eightCallsAtTheEndCalled() {
        CellSwitch x = Link.synced(2);
        x.call(0, 1, 1);
        x.tick(5);
        // SETUP comes with the next tick
        for (int i = 0; i < 8; i++) {
            due.same("call " + i, x.call(1, 0, 1), i);
        }
        x.tick(1);
        due.same("SETUP came", x.line(1, 6), 1);
        due.same("no call is made of it", x.calls(1), 8);
        x.tick(6);
        due.call("COMPLETE 47", x, 0, 0, 0, 1, 32, 1, 1, 47);
    }

    private static void tenMessagesWait() {
        CellSwitch x = Link.synced(2);
        for (int i = 0; i < 5; i++) {
            x.call(0, 1, 1);
            x.hang(0, i);
        }
        due.same("ten wait", x.line(0, 8), 10);
        due.same("five are not over", x.call(0, 1, 1), CellSwitch.FULL);
        due.same("no call is made", x.calls(0), 5);
        x.tick(3);
        due.same("eight are gone", x.call(0, 1, 1), 5);
        due.call("no reference was used up", x, 0, 5, 1, 6);
    }

    /** PROCEEDING of the end called: the switch waits for 40 ticks. */
    private static void aLateAnswer() {
        CellSwitch x = Link.synced(2);
        x.policy(1, 1, 30);
        x.call(0, 1, 1);
        x.tick(35);
        due.call("PRESENT at 45", x, 1, 0, 6);
        due.call("PROCEEDING at 45", x, 0, 0, 3);
        x.tick(1);
        due.call("ANSWERED at 46", x, 1, 0, 8);
        x.tick(2);
        due.call("ACTIVE at 48", x, 0, 0, 10);
        due.call("ACTIVE at 48", x, 1, 0, 10);
        due.same("one call there", x.calls(1), 1);
        x.tick(1);
        due.same("SETUP and CONFIRM were told", x.line(0, 1), 2);
    }

    /** CONNECT is lost at 46 by a reset; the end that calls gives up at 54, the switch at 57. */
    private static void fortyTicks() {
        CellSwitch x = Link.synced(2);
        x.policy(1, 1, 30);
        x.call(0, 1, 1);
        x.tick(35);
        Link.lose(x, 2, 0, 4);
        x.tick(1);
        x.reset(1);
        x.tick(7);
        due.call("PROCEEDING at 53", x, 0, 0, 3, 1, 32, 1, 1, 0);
        Link.lose(x, 0, 0, 4);
        x.tick(1);
        due.call("RELEASE 102 at 54", x, 0, 0, 11, 1, 32, 1, 1, 102);
        x.reset(0);
        x.tick(1);
        Link.lose(x, 2, 0, 4);
        due.call("ANSWERED at 55", x, 1, 0, 8);
        x.tick(1);
        due.call("RELEASE 102 at 56", x, 1, 0, 11, 1001, 32, 1, 0, 102);
        due.call("not answered", x, 0, 0, 11);
        x.tick(1);
        due.call("RELEASE of the switch at 57", x, 1, 0, 0, 1001, 32, 1, 0, 102);
        due.call("the side of end 0 had its turn before", x, 0, 0, 11);
        x.tick(1);
        due.call("RELEASE of the switch at 58", x, 0, 0, 0, 1, 32, 1, 1, 102);
        x.tick(3);
        links("all over", x, 0, 0, 0, 0);
        links("all over", x, 1, 0, 0, 0);
    }

    /** SETUP was told twice; RELEASE is told twice all the same. */
    private static void timersBeginAnew() {
        CellSwitch x = Link.synced(2);
        x.damage(0, Link.LOSE, 0, 0, 0);
        x.damage(1, Link.LOSE, 4 * 6, 0, 0);
        x.call(0, 1, 1);
        x.tick(22);
        due.call("ACTIVE at 32", x, 0, 0, 10);
        x.tick(4);
        Link.lose(x, 0, 0, 4);
        x.hang(0, 0);
        x.tick(1);
        x.reset(0);
        x.tick(8);
        due.call("RELEASING at 45", x, 0, 0, 11);
        x.tick(1);
        due.call("RELEASE again at 46", x, 0, 0, 11);
        x.tick(1);
        due.call("COMPLETE", x, 0, 0, 0, 1, 32, 1, 1, 16);
    }

    /** SETUP comes again while COMPLETE is lost on the way: another call of the same reference, with its own timers. */
    private static void setupAfterTheEndIsAnotherCall() {
        CellSwitch x = Link.synced(2);
        x.policy(1, 2, 1);
        x.call(0, 1, 1);
        x.tick(6);
        due.call("refused", x, 1, 0, 0, 1001, 32, 1, 0, 17);
        x.policy(1, 0, 1);
        for (int t = 17; t <= 20; t++) {
            Link.lose(x, 2, 0, 4);
            x.tick(1);
        }
        due.same("one call", x.calls(1), 1);
        x.tick(1);
        due.call("SETUP again at 21", x, 1, 1, 8, 1001, 32, 1, 0, 0);
        x.tick(9);
        due.call("COMPLETE came at last", x, 0, 0, 0, 1, 32, 1, 1, 17);
        due.call("CONNECT of a call that is over is nothing", x, 1, 1, 8);
        x.tick(1);
        due.call("RELEASE 102 at 31", x, 1, 1, 11, 1001, 32, 1, 0, 102);
        x.tick(1);
        due.call("COMPLETE 81", x, 1, 1, 0, 1001, 32, 1, 0, 102);
        due.call("the first one stays", x, 1, 0, 0, 1001, 32, 1, 0, 17);
    }
}
