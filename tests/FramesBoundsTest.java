/** The boundary cases of term 2 FRAMES, each at the boundary and on both sides of it. */
public final class FramesBoundsTest {
    private static final Expect due = new Expect("FramesBoundsTest");

    public static void main(String[] args) {
        term2WholeCells();
        term2TheLastCellOfDataByItsType();
        term2TheLastCellOfAUnitByItsType();
        term2FiveWithoutALastOne();
        term2FiveUnitCellsWithoutALastOne();
        term2ALastOneTooEarly();
        term2TheCrc();
        term2TheNumberOfBytes();
        term2TheNumberOfBytesOfUnits();
        term2OfAsManyCells();
        term2ForEachCall();
        due.end();
    }

    private static int busy(CellSwitch x) {
        return x.count(2) - x.count(3);
    }

    private static void term2WholeCells() {
        due.of("Term 2, '0s behind them so that these bytes and 8 more fill whole cells'");
        int[][] lengths = {{1, 1}, {39, 1}, {40, 1}, {41, 2}, {88, 2}, {89, 3}, {136, 3}, {137, 4}, {184, 4}, {185, 5},
            {199, 5}, {200, 5}};
        for (int[] length : lengths) {
            CellSwitch x = Link.connected(3);
            x.tick(5);
            int before = busy(x);
            byte[] bytes = Link.tape(x, length[0], length[0]);
            x.send(0, 0);
            x.tick(4);
            due.same("cells of " + length[0] + " bytes, on each of two links", busy(x) - before, 2 * length[1]);
            due.same("its bytes", x.received(1, 0, 1), length[0]);
            for (int k = 0; k < length[0]; k++) {
                due.same("byte " + k, x.byteOf(1, 0, k), bytes[k] & 255);
            }
        }
    }

    /** Changes the TYPE of cell k, whose channel is told, with its HEC. */
    private static void type(CellSwitch x, int direction, int k, int channel, int from, int to) {
        int old = channel << 4 | from << 1;
        int octets = channel << 4 | to << 1;
        if (old != octets) {
            x.damage(direction, Link.FLIP, k, 3, (old ^ octets) & 255);
            x.damage(direction, Link.FLIP, k, 4, x.header(old, 0, 0) ^ x.header(octets, 0, 0));
        }
    }

    private static void term2TheLastCellOfDataByItsType() {
        due.of("Term 2, 'cells up to one of TYPE 1, 3, 5 or 7'; term 5, 'its TYPE as it is'");
        for (int type = 0; type < 8; type++) {
            // on the way to the switch, which passes it on as it is, and on the way from it
            for (int d = 0; d <= 3; d += 3) {
                CellSwitch x = Inject.quiet();
                Link.tape(x, 40, type);
                x.send(0, 0);
                type(x, d, d == 0 ? 0 : 4, 32, 1, type);
                x.tick(2);
                due.same("TYPE " + type + " ends it", x.received(1, -1, 0), type % 2);
                due.same("not SPOILT", x.direction(3, 6), 0);
                Link.tape(x, 10, type);
                x.send(0, 0);
                x.tick(2);
                due.same("TYPE " + type + ", the next one", x.received(1, -1, 0), type % 2 == 1 ? 2 : 0);
                due.same("SPOILT, if it is behind a cell", x.direction(3, 6), 1 - type % 2);
            }
        }
    }

    private static void term2TheLastCellOfAUnitByItsType() {
        due.of("Term 2, 'for each direction's CHANNEL 5'");
        for (int type = 0; type < 8; type++) {
            CellSwitch x = Link.synced(2);
            x.call(0, 1, 1);
            type(x, 0, 0, 5, 1, type);
            x.tick(1);
            due.same("BEGIN of TYPE " + type, x.line(2, 0), type % 2 == 1 ? 2 : 0);
            due.same("not SPOILT", x.direction(0, 6), 0);
            x.tick(5);
            due.same("BEGIN again, behind a cell", x.line(2, 0), type % 2 == 1 ? 2 : 0);
            due.same("SPOILT", x.direction(0, 6), 1 - type % 2);
            x.tick(5);
            due.same("the third", x.line(2, 0), 2);
        }
    }

    private static void term2FiveWithoutALastOne() {
        due.of("Term 2, 'if there are five without such a one, they are thrown away (the frame is SPOILT)'");
        CellSwitch x = Inject.quiet();
        Link.tape(x, 200, 1);
        x.send(0, 0);
        x.tick(6);
        due.same("five, the fifth of TYPE 1", x.received(1, -1, 0), 1);
        due.same("not SPOILT", x.direction(3, 6), 0);
        Link.tape(x, 200, 2);
        x.send(0, 0);
        x.tick(4);
        type(x, 0, 0, 32, 1, 0);
        x.tick(1);
        due.same("four came", x.direction(3, 6), 0);
        x.tick(1);
        due.same("five without such a one", x.direction(3, 6), 1);
        due.same("thrown away", x.received(1, -1, 0), 1);
        Link.tape(x, 11, 3);
        x.send(0, 0);
        x.tick(2);
        due.same("it begins anew", x.received(1, 0, 1), 11);
        due.same("no other is SPOILT", x.direction(3, 6), 1);
    }

    private static void term2FiveUnitCellsWithoutALastOne() {
        due.of("Term 2, 'if there are five without such a one', of units");
        for (int cells = 3; cells <= 6; cells++) {
            CellSwitch x = Inject.open();
            // frames of one cell, whose TYPE is made 0; then END
            for (int i = 0; i < cells; i++) {
                Inject.unit(x, 0);
                type(x, 2, 0, 5, 1, 0);
                x.tick(1);
            }
            due.same(cells + " came", x.direction(2, 6), cells < 5 ? 0 : 1);
            Inject.unit(x, Inject.last(Inject.END, 0));
            x.tick(1);
            // with 4 it is the fifth, and of another length; with 5 it begins anew
            due.same("END behind " + cells, x.line(3, 0), cells == 5 ? 0 : 2);
            due.same("SPOILT", x.direction(2, 6), cells == 6 ? 2 : 1);
        }
    }

    private static void term2ALastOneTooEarly() {
        due.of("Term 2, 'SPOILT is also one whose .. number of bytes (.. of as many cells) is wrong'");
        CellSwitch x = Inject.quiet();
        Link.tape(x, 200, 1);
        x.send(0, 0);
        x.tick(3);
        type(x, 0, 0, 32, 0, 1);
        x.tick(2);
        due.same("four cells up to one of TYPE 1", x.direction(3, 6), 1);
        x.tick(1);
        due.same("the fifth alone", x.direction(3, 6), 2);
        due.same("none came", x.received(1, -1, 0), 0);
    }

    private static void term2TheCrc() {
        due.of("Term 2, 'SPOILT is also one whose CRC .. is wrong'");
        // the first and the last bit of the bytes, of the 0s behind them, of the 0, 0, of the number, of the CRC
        int[] octets = {5, 14, 15, 44, 45, 46, 47, 48, 49, 52};
        for (int octet : octets) {
            for (int mask = 1; mask <= 128; mask *= 128) {
                CellSwitch x = Inject.quiet();
                Link.tape(x, 10, 1);
                x.send(0, 0);
                x.damage(3, Link.FLIP, 4, octet, mask);
                x.tick(2);
                due.same("octet " + octet, x.direction(3, 6), 1);
                due.same("not received", x.received(1, -1, 0), 0);
            }
        }
        CellSwitch x = Inject.quiet();
        Link.tape(x, 10, 1);
        x.send(0, 0);
        x.tick(2);
        due.same("right", x.received(1, -1, 0), 1);
        CellSwitch y = Link.synced(2);
        y.call(0, 1, 1);
        y.damage(0, Link.FLIP, 0, 52, 1);
        y.tick(1);
        due.same("of a unit", y.direction(0, 6), 1);
        due.same("it is not taken", y.line(2, 0), 0);
    }

    private static void term2TheNumberOfBytes() {
        due.of("Term 2, 'or number of bytes (1 .. 200, ..) is wrong'");
        int[][] lengths = {{1, 0, 0}, {1, 1, 1}, {1, 2, 1}, {200, 199, 1}, {200, 200, 1}, {200, 201, 0}, {200, 232, 0},
            {200, 233, 0}, {200, 255, 0}};
        for (int[] length : lengths) {
            CellSwitch x = Inject.quiet();
            Link.tape(x, length[0], 1);
            x.send(0, 0);
            int cells = (length[0] + 55) / 48;
            if (cells > 1) {
                x.tick(cells - 1);
            }
            if (length[0] != length[1]) {
                Link.change(x, 0, 0, 43, length[0] ^ length[1]);
            }
            x.tick(2);
            due.same(length[1] + " told of " + length[0], x.received(1, -1, 0), length[2]);
            due.same(length[1] + " told of " + length[0] + ", SPOILT", x.direction(3, 6), 1 - length[2]);
            if (length[2] == 1) {
                due.same("its bytes", x.received(1, 0, 1), length[1]);
            }
        }
        // the higher of both bytes counts, too
        CellSwitch x = Inject.quiet();
        Link.tape(x, 30, 1);
        x.send(0, 0);
        Link.change(x, 0, 0, 42, 1);
        x.tick(2);
        due.same("256 more", x.direction(3, 6), 1);
    }

    private static void term2TheNumberOfBytesOfUnits() {
        due.of("Term 2, 'or number of bytes ..', of units");
        // BEGIN has 8 bytes: 0 and 41 are SPOILT, 40 is a unit of another length
        int[][] lengths = {{0, 1, 0}, {1, 0, 0}, {7, 0, 0}, {8, 0, 2}, {9, 0, 0}, {40, 0, 0}, {41, 1, 0}, {200, 1, 0}};
        for (int[] length : lengths) {
            CellSwitch x = Link.synced(2);
            x.call(0, 1, 1);
            if (length[0] != 8) {
                Link.change(x, 0, 0, 43, 8 ^ length[0]);
            }
            x.tick(1);
            due.same(length[0] + " bytes: SPOILT", x.direction(0, 6), length[1]);
            due.same(length[0] + " bytes: how the line is", x.line(2, 0), length[2]);
        }
    }

    private static void term2OfAsManyCells() {
        due.of("Term 2, 'number of bytes (.. of as many cells)'");
        // bytes sent, told, and whether it comes
        int[][] lengths = {{41, 40, 0}, {41, 41, 1}, {41, 88, 1}, {41, 89, 0}, {40, 40, 1}, {40, 41, 0}, {150, 136, 0},
            {150, 137, 1}, {150, 184, 1}, {150, 185, 0}, {190, 184, 0}, {190, 185, 1}};
        for (int[] length : lengths) {
            CellSwitch x = Inject.quiet();
            Link.tape(x, length[0], 1);
            x.send(0, 0);
            int cells = (length[0] + 55) / 48;
            if (cells > 1) {
                x.tick(cells - 1);
            }
            if (length[0] != length[1]) {
                Link.change(x, 0, 0, 43, length[0] ^ length[1]);
            }
            x.tick(2);
            due.same(length[1] + " told of " + length[0], x.received(1, -1, 0), length[2]);
            due.same("SPOILT", x.direction(3, 6), 1 - length[2]);
        }
    }

    private static void term2ForEachCall() {
        due.of("Term 2, 'They are put together again .. for each call'");
        // cells of two calls come in turn
        CellSwitch x = Link.synced(2);
        x.call(0, 1, 1);
        x.call(0, 1, 1);
        x.tick(15);
        Link.tape(x, 100, 1);
        x.send(0, 0);
        Link.tape(x, 120, 2);
        x.send(0, 1);
        x.tick(4);
        due.same("both", x.received(1, -1, 0), 2);
        due.same("the first", x.received(1, 1, 1), 100);
        due.same("its call", x.received(1, 1, 0), 0);
        due.same("the second", x.received(1, 0, 1), 120);
        due.same("its call", x.received(1, 0, 0), 1);
        due.same("none is SPOILT", x.direction(3, 6), 0);
    }
}
