/** Counts the answers of a test that are not the ones that are due. */
final class Expect {
    private final String test;
    private int asked;
    private int wrong;

    Expect(String test) {
        this.test = test;
    }

    void same(String what, long got, long due) {
        asked++;
        if (got != due) {
            wrong++;
            System.out.println(test + ": " + what + " answered " + got + ", due is " + due);
        }
    }

    void isTrue(String what, boolean holds) {
        asked++;
        if (!holds) {
            wrong++;
            System.out.println(test + ": " + what + " does not hold");
        }
    }

    void bad(String what, long got) {
        same(what, got, CellSwitch.BAD);
    }

    /** The answers of a line, from how it is to how often it was cut. */
    void line(String when, CellSwitch x, int side, int... due) {
        for (int what = 0; what < due.length; what++) {
            same(when + ": line(" + side + ", " + what + ")", x.line(side, what), due[what]);
        }
    }

    /** The answers of a call, from how it is to the frames that wait. */
    void call(String when, CellSwitch x, int e, int call, int... due) {
        for (int what = 0; what < due.length; what++) {
            same(when + ": about(" + e + ", " + call + ", " + what + ")", x.about(e, call, what), due[what]);
        }
    }

    void end() {
        System.out.println(test + ": " + asked + " answers, " + wrong + " wrong");
        if (wrong != 0 || asked == 0) {
            System.exit(1);
        }
    }
}
