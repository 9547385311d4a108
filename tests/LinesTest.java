/** Promises 14 (line), 15 (reset) and 16 (quit): messages come once each, in order, or the line is cut. */
public final class LinesTest {
    private static final Expect due = new Expect("LinesTest");

    public static void main(String[] args) {
        wrongInputs();
        aLineBegins();
        aLineIsAcknowledged();
        beginIsSentFourTimes();
        aLostAnswerToBegin();
        whatIsMissingGoesAgain();
        theLastIsMissing();
        aPollBehindEachFifth();
        theRowIsFull();
        noStatusForThirtyTicks();
        idleLinesPoll();
        resetOfOneSide();
        resetOfBothSides();
        resetIsSentFourTimes();
        quitEndsBothSides();
        quitIsSentFourTimes();
        beginOfAnotherTime();
        resetOfAnIdleSide();
        beginAgainOfTheSameTime();
        resetAgainOfTheSameTime();
        resetOfWhatCameAhead();
        gapAcknowledges();
        pollsOfThoseThatGoAgain();
        due.end();
    }

    private static void wrongInputs() {
        CellSwitch x = new CellSwitch(2);
        due.bad("line(-1, 0)", x.line(-1, 0));
        due.bad("line(4, 0)", x.line(4, 0));
        due.bad("line(0, -1)", x.line(0, -1));
        due.bad("line(0, 12)", x.line(0, 12));
        due.bad("reset(-1)", x.reset(-1));
        due.bad("reset(4)", x.reset(4));
        due.bad("quit(-1)", x.quit(-1));
        due.bad("quit(4)", x.quit(4));
        due.same("reset of IDLE", x.reset(3), 0);
        due.same("quit of IDLE", x.quit(3), 0);
        due.same("side 7 of 4 ends", new CellSwitch(4).line(7, 0), 0);
    }

    private static void aLineBegins() {
        CellSwitch x = Link.synced(2);
        x.call(0, 1, 1);
        due.line("it waits for its turn", x, 0, 0, 0, 0, 0, 0, 0, 0, 0, 1);
        x.tick(1);
        due.line("BEGIN", x, 0, 1, 0, 0, 0, 0, 0, 0, 0, 1);
        due.line("BEGIN came", x, 2, 2, 0, 0, 8, 0, 0, 0, 0, 0);
        due.same("reset of BEGINNING", x.reset(0), 0);
        due.same("quit of BEGINNING", x.quit(0), 0);
        x.tick(1);
        due.line("BEGUN came", x, 0, 2, 0, 0, 8, 0, 0, 0, 0, 1);
        x.tick(1);
        due.line("DATA 0", x, 0, 2, 1, 0, 8, 0, 0, 0, 0, 0, 1, 0, 0);
        due.line("DATA 0 came", x, 2, 2, 0, 0, 8, 0, 0, 1, 1, 1, 0, 0, 0);
    }

    private static void aLineIsAcknowledged() {
        CellSwitch x = Link.synced(2);
        x.call(0, 1, 5);
        x.tick(5);
        due.line("POLL of the switch, 4 ticks behind READY", x, 2, 2, 1, 0, 8, 1, 0, 1, 1, 0, 1);
        due.line("not of the end", x, 0, 2, 1, 0, 8, 0, 0, 1, 1, 0, 1);
        x.tick(1);
        due.line("STATUS came", x, 2, 2, 1, 1, 9, 1, 1, 1, 1, 0, 0);
        due.line("POLL of the end", x, 0, 2, 1, 0, 8, 1, 0, 1, 1, 0, 1);
        x.tick(1);
        due.line("STATUS came", x, 0, 2, 1, 1, 9, 1, 1, 1, 1, 0, 0, 0, 0);
    }

    private static void beginIsSentFourTimes() {
        CellSwitch x = Link.synced(2);
        x.call(0, 1, 1);
        for (int k = 0; k < 80; k += 20) {
            x.damage(0, Link.LOSE, k, 0, 0);
        }
        x.tick(17);
        x.call(0, 1, 1);
        x.tick(3);
        due.line("time 30", x, 0, 1, 0, 0, 0, 0, 0, 0, 0, 3, 0, 0, 0);
        due.call("SETUP was told twice", x, 0, 0, 0, 1, -2, 1, 1, 102);
        x.tick(1);
        due.line("given up at 31", x, 0, 0, 0, 0, 0, 0, 0, 0, 0, 0, 0, 0, 1);
        due.call("cut", x, 0, 1, 0, 2, -2, 1, 1, 41);
        due.line("END came to an idle side", x, 2, 0, 0, 0, 0, 0, 0, 0, 0, 0, 0, 0, 0);
        due.same("BEGIN 4 times, END, all else idle", x.count(2) - x.count(3), 5);
        x.tick(5);
        due.same("and ENDED", x.count(2) - x.count(3), 6);
    }

    private static void aLostAnswerToBegin() {
        CellSwitch x = Link.synced(2);
        x.call(0, 1, 1);
        x.damage(1, Link.LOSE, 4, 0, 0);
        x.tick(6);
        due.line("BEGIN again at 16", x, 0, 1, 0, 0, 0);
        due.line("READY at 11", x, 2, 2, 0, 0, 8, 0, 0, 0, 0, 0, 0, 0, 0);
        x.tick(1);
        due.line("BEGUN again at 17", x, 0, 2, 0, 0, 8);
        x.tick(1);
        due.same("SETUP at 18, and again, as the call is 8 ticks old", x.line(2, 6), 2);
    }

    private static void whatIsMissingGoesAgain() {
        CellSwitch x = Link.synced(2);
        x.call(0, 1, 1);
        x.call(0, 1, 1);
        x.call(0, 1, 1);
        x.damage(0, Link.LOSE, 8, 0, 0);
        x.tick(3);
        due.line("DATA 0 lost, 1 and 2 came ahead", x, 2, 2, 0, 0, 8, 0, 0, 0, 3, 0, 0, 2);
        x.tick(1);
        due.line("GAP came", x, 0, 2, 3, 0, 8, 0, 0, 0, 0, 0, 3);
        due.same("no call yet", x.link(0, 0, 0), 0);
        x.tick(1);
        due.line("DATA 0 again, all in order", x, 2, 2, 0, 0, 8, 0, 0, 3, 3, 3, 0, 0);
        due.same("three calls", x.link(0, 0, 0), 3);
        x.tick(3);
        due.line("all acknowledged", x, 0, 2, 3, 3, 11, 1, 1);
        for (int call = 0; call < 3; call++) {
            due.call("in order", x, 0, call, 3, call + 1, 32 + call);
        }
    }

    private static void theLastIsMissing() {
        CellSwitch x = Link.synced(2);
        x.call(0, 1, 5);
        x.damage(0, Link.LOSE, 8, 0, 0);
        x.tick(5);
        due.line("DATA 0 is lost", x, 2, 2, 0, 0, 8, 0, 0, 0, 0);
        x.tick(1);
        due.line("POLL 1 with N 1", x, 2, 2, 0, 0, 8, 0, 0, 0, 1, 0, 0, 0);
        x.tick(1);
        due.line("STATUS with 0, 1: to go again", x, 0, 2, 1, 0, 8, 1, 1, 0, 0, 0, 1);
        x.tick(1);
        due.line("DATA 0 again, and SETUP told again as DATA 1", x, 2, 2, 0, 0, 8, 0, 0, 2, 2, 2, 0, 0);
        due.line("both sent", x, 0, 2, 2, 0, 8, 1, 1, 0, 0, 0, 2);
    }

    private static void aPollBehindEachFifth() {
        CellSwitch x = Link.synced(2);
        for (int i = 0; i < 6; i++) {
            x.call(0, 1, 5);
        }
        x.tick(3);
        due.line("DATA 0 .. 4, POLL, DATA 5", x, 0, 2, 6, 0, 8, 1, 0, 0, 0, 0, 6);
        due.same("four of seven cells are gone", x.direction(0, 8), 3);
        x.tick(1);
        due.line("all came", x, 2, 2, 4, 0, 8, 0, 0, 6, 6, 2);
        x.tick(1);
        due.line("STATUS of 5", x, 0, 2, 6, 5, 13, 1, 1);
    }

    private static void theRowIsFull() {
        CellSwitch x = Link.synced(2);
        for (int i = 0; i < 8; i++) {
            due.same("call " + i, x.call(0, 1, 1), i);
        }
        due.same("a ninth call", x.call(0, 1, 1), CellSwitch.FULL);
        due.same("hang 0", x.hang(0, 0), 1);
        due.same("hang 1", x.hang(0, 1), 1);
        due.same("ten wait", x.line(0, 8), 10);
        due.same("hang 2, whose message is refused", x.hang(0, 2), 1);
        due.same("ten wait", x.line(0, 8), 10);
        due.call("it is RELEASING all the same", x, 0, 2, 11, 3, -2, 1, 1, 16);
        x.tick(3);
        due.line("eight may go", x, 0, 2, 8, 0, 8, 1, 0, 0, 0, 2, 8);
        x.tick(4);
        due.same("the others go when some are acknowledged", x.line(0, 1), 10);
    }

    private static void noStatusForThirtyTicks() {
        CellSwitch x = Link.connected(1);
        for (int t = 21; t <= 46; t++) {
            Link.lose(x, 1, 0, 4);
            x.tick(1);
        }
        due.same("READY at 46", x.line(0, 0), 2);
        due.same("never cut", x.line(0, 11), 0);
        due.call("active", x, 0, 0, 10);
        Link.lose(x, 1, 0, 4);
        x.tick(1);
        due.line("cut at 47, STATUS came at 17", x, 0, 0, 0, 0, 0, 0, 0, 0, 0, 0, 0, 0, 1);
        due.line("END came", x, 2, 0, 0, 0, 0, 0, 0, 0, 0, 0, 0, 0, 1);
        due.call("cut", x, 0, 0, 0, 1, 32, 1, 1, 41);
        due.call("not yet there", x, 1, 0, 10);
        x.tick(1);
        due.call("RELEASE 41", x, 1, 0, 0, 1001, 32, 1, 0, 41);
        due.same("nothing is left at the switch", x.link(0, 0, 0), 0);
        x.tick(2);
        due.same("nothing is left at the switch", x.link(1, 0, 0), 0);
    }

    private static void idleLinesPoll() {
        CellSwitch x = Link.synced(2);
        x.call(0, 1, 5);
        x.tick(24);
        due.same("POLL of the switch at 15", x.line(2, 4), 1);
        x.tick(1);
        due.same("and 35", x.line(2, 4), 2);
        due.same("POLL of the end at 16", x.line(0, 4), 1);
        x.tick(1);
        due.same("and 36", x.line(0, 4), 2);
        x.tick(19);
        due.same("not before", x.line(0, 4), 2);
        x.tick(1);
        due.same("and 56", x.line(0, 4), 3);
        due.same("never cut", x.line(0, 11) + x.line(2, 11), 0);
    }

    private static void resetOfOneSide() {
        CellSwitch x = Link.connected(1);
        int s = x.line(0, 1);
        int waits = x.direction(0, 8);
        due.isTrue("something was sent", s > 0);
        due.same("reset", x.reset(0), 1);
        due.same("RESETTING", x.line(0, 0), 3);
        due.same("its numbers stay till the answer", x.line(0, 1), s);
        due.same("RESET is in the queue", x.direction(0, 8), waits + 1);
        due.same("reset of RESETTING", x.reset(0), 0);
        due.same("quit of RESETTING", x.quit(0), 0);
        x.tick(1);
        due.line("RESET came", x, 2, 2, 0, 0, 8, 0, 0, 0, 0, 0, 0, 0, 0);
        x.tick(1);
        due.line("RESET DONE came", x, 0, 2, 0, 0, 8, 0, 0, 0, 0, 0, 0, 0, 0);
        due.call("calls stay", x, 0, 0, 10);
        due.call("calls stay", x, 1, 0, 10);
        due.same("reset again", x.reset(0), 1);
        x.tick(2);
        due.line("with another N", x, 0, 2, 0, 0, 8);
    }

    private static void resetOfBothSides() {
        CellSwitch x = Link.connected(1);
        due.same("reset", x.reset(0), 1);
        due.same("reset", x.reset(2), 1);
        x.tick(1);
        due.line("both are READY", x, 0, 2, 0, 0, 8, 0, 0, 0, 0, 0, 0, 0, 0);
        due.line("both are READY", x, 2, 2, 0, 0, 8, 0, 0, 0, 0, 0, 0, 0, 0);
        x.hang(0, 0);
        x.tick(3);
        due.call("messages go", x, 0, 0, 0, 1, 32, 1, 1, 16);
    }

    private static void resetIsSentFourTimes() {
        CellSwitch x = Link.connected(1);
        x.damage(0, Link.LOSE, x.direction(0, 8), 0, 0);
        x.reset(0);
        for (int k = 16; k <= 56; k += 20) {
            x.damage(0, Link.LOSE, k, 0, 0);
        }
        x.tick(19);
        due.same("RESETTING at 39", x.line(0, 0), 3);
        due.call("active", x, 0, 0, 10);
        x.tick(1);
        due.line("cut at 40", x, 0, 0, 0, 0, 0, 0, 0, 0, 0, 0, 0, 0, 1);
        due.line("END came", x, 2, 0, 0, 0, 0, 0, 0, 0, 0, 0, 0, 0, 1);
        due.call("cut", x, 0, 0, 0, 1, 32, 1, 1, 41);
    }

    private static void quitEndsBothSides() {
        CellSwitch x = Link.connected(1);
        due.same("a call", x.call(0, 1, 1), 1);
        int s = x.line(0, 1);
        due.same("quit", x.quit(0), 1);
        due.same("ENDING", x.line(0, 0), 4);
        due.same("its numbers stay till the answer", x.line(0, 1), s);
        due.same("what waits is gone", x.line(0, 8), 0);
        due.same("quit of ENDING", x.quit(0), 0);
        due.same("reset of ENDING", x.reset(0), 0);
        due.call("as of one that is cut", x, 0, 0, 0, 1, 32, 1, 1, 41);
        due.call("as of one that is cut", x, 0, 1, 0, 2, -2, 1, 1, 41);
        x.tick(1);
        due.line("END came", x, 2, 0, 0, 0, 0, 0, 0, 0, 0, 0, 0, 0, 1);
        due.same("ENDING", x.line(0, 0), 4);
        x.tick(1);
        due.line("ENDED came, not CUT", x, 0, 0, 0, 0, 0, 0, 0, 0, 0, 0, 0, 0, 0);
        due.call("RELEASE came", x, 1, 0, 0, 1001, 32, 1, 0, 41);
        // a call of one that is ENDING waits for the next beginning
        CellSwitch y = Link.connected(1);
        y.quit(0);
        y.call(0, 1, 1);
        y.tick(2);
        due.line("it waits", y, 0, 0, 0, 0, 0, 0, 0, 0, 0, 1);
        y.tick(10);
        due.call("it goes", y, 0, 1, 10, 2, 32);
    }

    private static void quitIsSentFourTimes() {
        CellSwitch x = Link.connected(1);
        x.damage(0, Link.LOSE, x.direction(0, 8), 0, 0);
        x.quit(0);
        for (int k = 16; k <= 56; k += 20) {
            x.damage(0, Link.LOSE, k, 0, 0);
        }
        x.tick(19);
        due.same("ENDING at 39", x.line(0, 0), 4);
        due.same("READY", x.line(2, 0), 2);
        x.tick(1);
        due.line("cut at 40", x, 0, 0, 0, 0, 0, 0, 0, 0, 0, 0, 0, 0, 1);
        due.line("END came", x, 2, 0, 0, 0, 0, 0, 0, 0, 0, 0, 0, 0, 1);
    }

    /** Time 40: end 0 has ended its line, but no END came to the switch. */
    private static CellSwitch endedAlone() {
        CellSwitch x = Link.connected(1);
        x.damage(0, Link.LOSE, x.direction(0, 8), 0, 0);
        x.quit(0);
        for (int k = 16; k <= 76; k += 20) {
            x.damage(0, Link.LOSE, k, 0, 0);
        }
        x.tick(20);
        return x;
    }

    private static void beginOfAnotherTime() {
        CellSwitch x = endedAlone();
        due.line("cut", x, 0, 0, 0, 0, 0, 0, 0, 0, 0, 0, 0, 0, 1);
        due.same("READY still", x.line(2, 0), 2);
        due.call("active still", x, 1, 0, 10);
        x.call(0, 1, 1);
        x.tick(1);
        due.line("READY anew, it does not count as CUT", x, 2, 2, 0, 0, 8, 0, 0, 0, 0, 0, 0, 0, 0);
        due.same("its calls are over", x.link(0, 0, 0), 0);
        x.tick(1);
        due.line("READY", x, 0, 2, 0, 0, 8, 0, 0, 0, 0, 1);
        due.call("RELEASE 41", x, 1, 0, 0, 1001, 32, 1, 0, 41);
        x.tick(8);
        due.call("the new call", x, 0, 1, 10, 2, 32, 1, 1, 0);
        beginWhileResetting();
        beginWhileEnding();
    }

    private static void beginWhileResetting() {
        CellSwitch x = endedAlone();
        x.damage(1, Link.LOSE, x.direction(1, 8), 0, 0);
        due.same("reset", x.reset(2), 1);
        x.call(0, 1, 1);
        x.tick(1);
        due.line("BEGIN came", x, 2, 2, 0, 0, 8, 0, 0, 0, 0, 0, 0, 0, 0);
        due.same("its calls are over", x.link(0, 0, 0), 0);
        x.tick(1);
        due.call("RELEASE 41", x, 1, 0, 0, 1001, 32, 1, 0, 41);
    }

    private static void beginWhileEnding() {
        CellSwitch x = endedAlone();
        x.damage(1, Link.LOSE, x.direction(1, 8), 0, 0);
        due.same("quit", x.quit(2), 1);
        x.call(1, 0, 1);
        x.tick(1);
        due.same("a call since then", x.link(0, 0, 0), 1);
        due.line("SETUP waits", x, 2, 4);
        due.same("SETUP waits", x.line(2, 8), 1);
        x.call(0, 1, 1);
        x.tick(1);
        due.line("BEGIN came, what waits stays", x, 2, 2, 0, 0, 8, 0, 0, 0, 0, 1, 0, 0, 0);
        due.same("its calls are over", x.link(0, 0, 0), 0);
        x.tick(1);
        due.call("RELEASE 41; channel 32 was not free yet", x, 1, 1, 0, 1, 33, 1, 0, 41);
    }

    /** RESET that comes to an idle side is answered by END 1. */
    private static void resetOfAnIdleSide() {
        CellSwitch x = Link.connected(1);
        // the switch ends alone: its END is lost four times, the last one, too
        x.damage(1, Link.LOSE, x.direction(1, 8), 0, 0);
        x.quit(2);
        for (int k = 16; k <= 76; k += 20) {
            x.damage(1, Link.LOSE, k, 0, 0);
        }
        x.tick(20);
        due.same("IDLE", x.line(2, 0), 0);
        due.same("READY", x.line(0, 0), 2);
        x.reset(0);
        x.tick(1);
        due.same("RESETTING", x.line(0, 0), 3);
        x.tick(1);
        due.line("END 1 came", x, 0, 0, 0, 0, 0, 0, 0, 0, 0, 0, 0, 0, 1);
        due.call("cut", x, 0, 0, 0, 1, 32, 1, 1, 41);
        due.same("IDLE, cut once", x.line(2, 11), 1);
    }

    /** BEGUN is lost; the other side has sent DATA when BEGIN comes again. */
    private static void beginAgainOfTheSameTime() {
        CellSwitch x = Link.synced(2);
        x.call(0, 1, 1);
        x.call(1, 0, 1);
        x.damage(1, Link.LOSE, 4, 0, 0);
        x.tick(4);
        due.line("SETUP to an end that is BEGINNING", x, 2, 2, 1, 0, 8, 0, 0, 0, 0, 0, 1);
        x.tick(2);
        due.line("BEGIN again at 16", x, 2, 2, 1, 0, 8, 1, 0, 0, 0, 0, 1, 0, 0);
        due.same("its calls stay", x.link(0, 0, 0), 1);
        x.tick(1);
        due.line("READY at 17", x, 0, 2, 0, 0, 8);
        x.tick(6);
        due.same("SETUP goes again and makes one call", x.calls(0), 2);
        due.call("it is answered", x, 0, 1, 10, 1001, 32);
    }

    /** RESET DONE is lost; the other side has sent DATA when RESET comes again. */
    private static void resetAgainOfTheSameTime() {
        CellSwitch x = Link.connected(1);
        x.tick(5);
        x.reset(0);
        x.tick(1);
        x.damage(1, Link.LOSE, 0, 0, 0);
        x.hang(1, 0);
        x.tick(2);
        due.line("RELEASE to an end that is RESETTING", x, 2, 2, 1, 0, 8, 0, 0, 0, 0, 0, 1);
        x.tick(2);
        due.line("RESET again at 30", x, 2, 2, 1, 0, 8, 1, 0, 0, 0, 0, 1);
        due.same("RESETTING", x.line(0, 0), 3);
        x.tick(1);
        due.line("READY at 31", x, 0, 2, 0, 0, 8);
        x.tick(6);
        due.call("RELEASE goes again", x, 0, 0, 0, 1, 32, 1, 1, 16);
    }

    private static void resetOfWhatCameAhead() {
        CellSwitch x = Link.synced(2);
        x.call(0, 1, 5);
        x.call(0, 1, 5);
        x.damage(0, Link.LOSE, 8, 0, 0);
        x.tick(3);
        due.same("1 came ahead", x.line(2, 10), 1);
        x.reset(0);
        x.tick(1);
        due.line("gone", x, 2, 2, 0, 0, 8, 0, 0, 0, 0, 0, 0, 0);
        x.tick(1);
        due.line("gone", x, 0, 2, 0, 0, 8, 0, 0, 0, 0, 0, 0, 0);
        // both calls tell SETUP again at 18, as DATA 0 and 1
        x.tick(3);
        due.line("new ones", x, 2, 2, 0, 0, 8, 0, 0, 2, 2, 2, 0, 0);
    }

    private static void gapAcknowledges() {
        CellSwitch x = Link.synced(2);
        x.call(0, 1, 1);
        x.call(0, 1, 1);
        x.call(0, 1, 1);
        x.damage(0, Link.LOSE, 9, 0, 0);
        x.tick(3);
        due.line("DATA 1 lost", x, 2, 2, 0, 0, 8, 0, 0, 1, 3, 1, 0, 1);
        x.tick(1);
        due.line("GAP 1, 2 with R 1", x, 0, 2, 3, 1, 9, 0, 0, 1, 1, 0, 2);
        int busy = x.count(2) - x.count(3);
        x.tick(1);
        due.line("DATA 1 again", x, 2, 2, 1, 0, 8, 1, 0, 3, 3, 2);
        // DATA 1, POLL of the switch and BEGUN of end 1
        due.same("once", x.count(2) - x.count(3) - busy, 3);
        busy = x.count(2) - x.count(3);
        x.tick(1);
        // STATUS and POLL of end 0; two PROCEEDINGs; one SETUP, two more of the calls that came now
        due.same("and no more", x.count(2) - x.count(3) - busy, 2 + 2 + 3);
    }

    /** Of DATA 2 .. 7 none comes, POLL 3 does; the next STATUS asks for 6, which went behind its POLL, and for 7. */
    private static void pollsOfThoseThatGoAgain() {
        CellSwitch x = Link.connected(1);
        x.tick(5);
        for (int i = 0; i < 6; i++) {
            x.call(0, 1, 5);
        }
        Link.lose(x, 0, 0, 5);
        x.damage(0, Link.LOSE, 6, 0, 0);
        x.tick(2);
        due.line("POLL behind DATA 6 came", x, 2, 2, 2, 2, 10, 2, 2, 2, 7);
        x.tick(1);
        due.line("STATUS 2, 7 of P 3", x, 0, 2, 8, 2, 10, 3, 3, 2, 2, 0, 6);
        x.tick(1);
        due.line("2 .. 5 go again, a POLL behind the fifth since POLL 3, 6", x, 0, 2, 8, 2, 10, 4, 3);
        due.same("four of six cells are gone", x.direction(0, 8), 2);
        x.tick(1);
        due.line("all but DATA 7", x, 2, 2, 6, 2, 10, 2, 2, 7, 8, 1);
        x.tick(1);
        due.line("STATUS 6, 8 of P 4", x, 0, 2, 8, 6, 14, 4, 4);
        int busy = x.count(2) - x.count(3);
        x.tick(1);
        due.line("DATA 7 again", x, 2, 2, 7, 6, 14, 3, 3, 8, 8, 1);
        due.same("and STATUS, but DATA 6 does not go again", x.count(2) - x.count(3) - busy, 2);
    }
}
