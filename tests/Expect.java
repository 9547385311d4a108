/** Counts the answers of a test that are not the ones that are due. */
final class Expect {
    private final String test;
    private String about = "";
    private int asked;
    private int wrong;

    Expect(String test) {
        this.test = test;
    }

    /** The promise or the term, and its sentence, that the next answers are about. */
    void of(String sentence) {
        about = sentence + ": ";
    }

    void same(String what, long got, long due) {
        asked++;
        if (got != due) {
            wrong++;
            System.out.println(test + ": " + about + what + " answered " + got + ", due is " + due);
        }
    }

    void isTrue(String what, boolean holds) {
        asked++;
        if (!holds) {
            wrong++;
            System.out.println(test + ": " + about + what + " does not hold");
        }
    }

    void bad(String what, long got) {
        same(what, got, CellSwitch.BAD);
    }

    void full(String what, long got) {
        same(what, got, CellSwitch.FULL);
    }

    void none(String what, long got) {
        same(what, got, CellSwitch.NONE);
    }

    /** The answers of a line, from how it is to how often it was cut. */
    void line(String when, CellSwitch x, int side, int... due) {
        for (int what = 0; what < due.length; what++) {
            same(when + ": line(" + side + ", " + what + ")", x.line(side, what), due[what]);
        }
    }

    /** The answers of a call, from how it is to the frames that wait. */
    void call(String when, CellSwitch x, int e, int call, int... due) {
        for (int what = 0; what < due.length; what++) {
            same(when + ": about(" + e + ", " + call + ", " + what + ")", x.about(e, call, what), due[what]);
        }
    }

    /** The answers of a direction, from its receiver to the data cells that wait. */
    void direction(String when, CellSwitch x, int d, int... due) {
        for (int what = 0; what < due.length; what++) {
            same(when + ": direction(" + d + ", " + what + ")", x.direction(d, what), due[what]);
        }
    }

    /** The calls, rates and joined channels of the switch at a link. */
    void link(String when, CellSwitch x, int e, int... due) {
        for (int what = 0; what < due.length; what++) {
            same(when + ": link(" + e + ", " + what + ")", x.link(e, what, 0), due[what]);
        }
    }

    void end() {
        System.out.println(test + ": " + asked + " answers, " + wrong + " wrong");
        if (wrong != 0 || asked == 0) {
            System.exit(1);
        }
    }
}
