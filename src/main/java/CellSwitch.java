import java.util.ArrayList;
import java.util.Arrays;

/** A switch of cells and its end systems: links, lines, calls and data, all going by ticks. */
public final class CellSwitch {
    public static final int BAD = -1, NONE = -2, FULL = -3;

    private static final int LEAST_ENDS = 2, MOST_ENDS = 4;
    private static final int TAPE_BYTES = 200, FEED_BYTES = 20, MOST_TICKS = 50;
    private static final int CALLS_OPEN = 8, CALLS_IN_ALL = 40, MOST_RATE_ASKED = 5, MOST_RATE = 3;

    private static final int CELL = 53, HEAD = 5, PAYLOAD = 48;
    private static final int CELLS_A_TICK = 4, QUEUE_CELLS = 40, MESSAGE_CHANNEL = 5;
    private static final int IDLE_HEAD = 1, IDLE_OCTET = 106;
    private static final int FRAME_BYTES = 200, FRAME_CELLS = 5, TRAILER = 8, IMAGE = FRAME_CELLS * PAYLOAD;
    private static final int MESSAGE_BYTES = 60, WINDOW = 8;

    private static final int LOSE = 0, FLIP = 1, SLIP = 2, MOST_DAMAGES = 8, FARTHEST_DAMAGE = 999;

    /** The rest of each four bits, times x to the 8th, by x^8 + x^2 + x + 1. */
    private static final int[] HEC_STEPS = {
        0x00, 0x07, 0x0E, 0x09, 0x1C, 0x1B, 0x12, 0x15,
        0x38, 0x3F, 0x36, 0x31, 0x24, 0x23, 0x2A, 0x2D
    };

    private final int ends;
    private final Direction[] directions;
    private final EndSide[] endSides;
    private final SwitchSide[] switchSides;
    private final Side[] sides;
    private final Signal signal = new Signal();
    private final int[] message = new int[MESSAGE_BYTES];
    private final int[] image = new int[IMAGE];
    private final int[] tape = new int[TAPE_BYTES];
    private int tapeLength;
    private int time;
    private int idleCells;

    public CellSwitch(int ends) {
        int n = Math.max(LEAST_ENDS, Math.min(MOST_ENDS, ends));
        Direction[] ways = new Direction[2 * n];
        EndSide[] atEnds = new EndSide[n];
        SwitchSide[] atSwitch = new SwitchSide[n];
        Side[] all = new Side[2 * n];
        for (int e = 0; e < n; e++) {
            Direction up = new Direction();
            Direction down = new Direction();
            EndSide atEnd = new EndSide(e, new Line(up));
            SwitchSide far = new SwitchSide(e, new Line(down), atSwitch);
            ways[2 * e] = up;
            ways[2 * e + 1] = down;
            atEnds[e] = atEnd;
            atSwitch[e] = far;
            all[e] = atEnd;
            all[n + e] = far;
        }
        this.ends = n;
        directions = ways;
        endSides = atEnds;
        switchSides = atSwitch;
        sides = all;
    }

    // ---- the tape and the time

    public int feed(int a, int b, int c, int d, int e) {
        if (tapeLength + FEED_BYTES > TAPE_BYTES) {
            return FULL;
        }
        putOnTape(a);
        putOnTape(b);
        putOnTape(c);
        putOnTape(d);
        putOnTape(e);
        return tapeLength;
    }

    private void putOnTape(int number) {
        for (int shift = 24; shift >= 0 && tapeLength < TAPE_BYTES; shift -= 8) {
            tape[tapeLength] = (number >>> shift) & 255;
            tapeLength++;
        }
    }

    public int end(int n) {
        if (n < 0 || n > FEED_BYTES || tapeLength < FEED_BYTES) {
            return BAD;
        }
        tapeLength = tapeLength - FEED_BYTES + n;
        return tapeLength;
    }

    public int tick(int n) {
        if (n < 1 || n > MOST_TICKS) {
            return BAD;
        }
        for (int k = 0; k < n; k++) {
            time++;
            for (int s = 0; s < sides.length; s++) {
                Side side = sides[s];
                if (side.line.timers(time)) {
                    side.allOver(time);
                }
                side.callTimers(time);
                side.line.turn(time);
            }
            for (int e = 0; e < ends; e++) {
                endSides[e].sendCells(directions[2 * e]);
            }
            for (int d = 0; d < directions.length; d++) {
                idleCells += directions[d].putCells();
            }
            for (int d = 0; d < directions.length; d++) {
                arrive(d, directions[d]);
            }
        }
        return time;
    }

    /** What is on the link comes to its receiver; what a cell brings is dealt with before the next octet. */
    private void arrive(int d, Direction way) {
        Side side = d % 2 == 0 ? sides[ends + d / 2] : sides[d / 2];
        int at = 0;
        for (int k = 0; k < CELLS_A_TICK * CELL && at < way.onWire; k++) {
            at += way.receiver.take(way.wire, at, way.onWire);
            if (!way.receiver.ready || !cellCame(d, way)) {
                continue;
            }
            int event = side.line.unitCame(way.assembler.bytes, way.assembler.length, time);
            if (event == Line.CALLS_OVER) {
                side.allOver(time);
            } else if (event == Line.WRONG) {
                side.line.ask(Line.RESETTING, Line.RECOVER, time);
            }
            int length = side.line.takeNext(message);
            for (int m = 0; m < WINDOW && length > 0; m++) {
                if (signal.read(message, length, d % 2 == 1)) {
                    side.came(signal, time);
                }
                length = side.line.takeNext(message);
            }
        }
    }

    /** Answers whether a unit of the line is whole with this cell. */
    private boolean cellCame(int d, Direction way) {
        int head = way.receiver.head;
        int vpi = (head >>> 20) & 255;
        int channel = (head >>> 4) & 0xFFFF;
        boolean last = (head & 2) != 0;
        if (vpi == 0 && channel == 0) {
            return false;
        }
        if (vpi == 0 && channel == MESSAGE_CHANNEL) {
            int how = way.assembler.add(way.receiver.payload, last);
            if (how == Assembler.SPOILT) {
                way.spoilt++;
            }
            return how == Assembler.WHOLE;
        }
        Call call = null;
        if (vpi == 0) {
            call = d % 2 == 0 ? switchSides[d / 2].joined(channel) : endSides[d / 2].active(channel);
        }
        if (call == null) {
            way.lost++;
        } else if (d % 2 == 0) {
            passOn(call.partner, head, way.receiver.payload);
        } else if (endSides[d / 2].dataCame(call, way.receiver.payload, last, time) == Assembler.SPOILT) {
            way.spoilt++;
        }
        return false;
    }

    private void passOn(Call to, int head, int[] payload) {
        if (to == null) {
            return;
        }
        int way = 2 * to.side.link + 1;
        if (way < directions.length) {
            directions[way].addData((to.channel << 4) | (head & 0xE), payload, 0);
        }
    }

    // ---- ends

    public int call(int e, int to, int rate) {
        if (!isEnd(e) || !isEnd(to) || e == to || rate < 1 || rate > MOST_RATE_ASKED) {
            return BAD;
        }
        return endSides[e].ask(to, rate, time);
    }

    public int hang(int e, int call) {
        Call c = callAt(e, call);
        if (c == null) {
            return BAD;
        }
        if (c.state == Call.OVER || c.state == Call.RELEASING) {
            return 0;
        }
        c.release(Call.CAUSE_HUNG, time);
        return 1;
    }

    public int policy(int e, int kind, int ticks) {
        if (!isEnd(e) || kind < 0 || kind > 2) {
            return BAD;
        }
        if (kind == EndSide.LATER && (ticks < 1 || ticks > EndSide.LATEST)) {
            return BAD;
        }
        endSides[e].policyKind = kind;
        endSides[e].policyTicks = ticks;
        return 1;
    }

    public int send(int e, int call) {
        Call c = callAt(e, call);
        if (c == null || tapeLength < 1) {
            return BAD;
        }
        if (c.state != Call.ACTIVE) {
            return NONE;
        }
        if (!c.addFrame(tape, tapeLength)) {
            return FULL;
        }
        tapeLength = 0;
        return c.framesWaiting;
    }

    public int about(int e, int call, int what) {
        Call c = callAt(e, call);
        if (c == null) {
            return BAD;
        }
        switch (what) {
            case 0: return c.state;
            case 1: return c.own ? c.reference : c.reference + 1000;
            case 2: return c.channel;
            case 3: return c.rate;
            case 4: return c.other;
            case 5: return c.cause;
            case 6: return c.framesWaiting;
            default: return BAD;
        }
    }

    public int calls(int e) {
        return isEnd(e) ? endSides[e].had : BAD;
    }

    public int received(int e, int i, int what) {
        if (!isEnd(e)) {
            return BAD;
        }
        EndSide side = endSides[e];
        if (i == -1) {
            return what == 0 ? side.receivedInAll : BAD;
        }
        int place = side.placeOfFrame(i);
        if (place < 0) {
            return BAD;
        }
        switch (what) {
            case 0: return side.receivedCalls[place];
            case 1: return side.receivedLengths[place];
            case 2: return side.receivedTimes[place];
            default: return BAD;
        }
    }

    public int byteOf(int e, int i, int k) {
        if (!isEnd(e)) {
            return BAD;
        }
        EndSide side = endSides[e];
        int place = side.placeOfFrame(i);
        if (place < 0 || k < 0 || k >= side.receivedLengths[place]) {
            return BAD;
        }
        return side.receivedBytes[place * FRAME_BYTES + k];
    }

    private boolean isEnd(int e) {
        return e >= 0 && e < ends;
    }

    private Call callAt(int e, int call) {
        if (!isEnd(e) || call < 0 || call >= endSides[e].had) {
            return null;
        }
        return endSides[e].numbered[call];
    }

    // ---- the switch

    public int link(int e, int what, int v) {
        if (!isEnd(e)) {
            return BAD;
        }
        SwitchSide side = switchSides[e];
        switch (what) {
            case 0: return side.openCalls();
            case 1: return side.rates();
            case 2: return side.joinedChannels();
            case 3: return side.farChannel(v);
            default: return BAD;
        }
    }

    // ---- lines

    public int line(int side, int what) {
        return isSide(side) ? sides[side].line.tell(what) : BAD;
    }

    public int reset(int side) {
        if (!isSide(side)) {
            return BAD;
        }
        Line line = sides[side].line;
        if (line.state != Line.READY) {
            return 0;
        }
        line.ask(Line.RESETTING, Line.RESET, time);
        return 1;
    }

    public int quit(int side) {
        if (!isSide(side)) {
            return BAD;
        }
        Line line = sides[side].line;
        if (line.state != Line.READY) {
            return 0;
        }
        line.waiting.clearAll();
        line.ask(Line.ENDING, Line.END, time);
        sides[side].allOver(time);
        return 1;
    }

    private boolean isSide(int side) {
        return side >= 0 && side < sides.length;
    }

    // ---- links

    public int damage(int direction, int kind, int k, int octet, int mask) {
        if (!isDirection(direction) || kind < LOSE || kind > SLIP || k < 0 || k > FARTHEST_DAMAGE) {
            return BAD;
        }
        if (kind == FLIP && (octet < 0 || octet >= CELL || mask < 1 || mask > 255)) {
            return BAD;
        }
        return directions[direction].addDamage(kind, k, octet, mask);
    }

    public int direction(int d, int what) {
        return isDirection(d) ? directions[d].tell(what) : BAD;
    }

    public int header(int octets, int h, int what) {
        if (what == 0) {
            return hecOf(octets);
        }
        if (what != 1) {
            return BAD;
        }
        if (h < 0 || h > 255) {
            return 0;
        }
        if (hecOf(octets) == h) {
            return 1;
        }
        int bit = wrongBit(octets, h);
        return bit < 0 ? 0 : bit + 2;
    }

    public int crc() {
        if (tapeLength < 1) {
            return 0;
        }
        System.arraycopy(tape, 0, image, 0, tapeLength);
        int last = closeFrame(image, tapeLength) * PAYLOAD;
        return crcOf(image, last - 4);
    }

    public int count(int what) {
        switch (what) {
            case 0: return ends;
            case 1: return time;
            case 2: return time * CELLS_A_TICK * directions.length;
            case 3: return idleCells;
            default: return BAD;
        }
    }

    private boolean isDirection(int d) {
        return d >= 0 && d < directions.length;
    }

    // ---- codes of headers and frames

    private static int hecOf(int head) {
        int rest = 0;
        for (int shift = 28; shift >= 0; shift -= 4) {
            int step = ((rest >>> 4) ^ (head >>> shift)) & 15;
            rest = ((rest << 4) & 255) ^ HEC_STEPS[step];
        }
        return rest ^ 0x55;
    }

    /** The one bit of the 40 that makes a header right (0 the highest), or -1. */
    private static int wrongBit(int head, int hec) {
        for (int bit = 0; bit < 32; bit++) {
            if (hecOf(head ^ (1 << (31 - bit))) == hec) {
                return bit;
            }
        }
        int differ = hecOf(head) ^ hec;
        return Integer.bitCount(differ) == 1 ? 32 + Integer.numberOfLeadingZeros(differ) - 24 : -1;
    }

    private static int crcOf(int[] bytes, int n) {
        int rest = -1;
        for (int i = 0; i < n && i < bytes.length; i++) {
            rest ^= bytes[i] << 24;
            for (int bit = 0; bit < 8; bit++) {
                rest = rest < 0 ? (rest << 1) ^ 0x04C11DB7 : rest << 1;
            }
        }
        return ~rest;
    }

    private static int cellsFor(int bytes) {
        return (bytes + TRAILER + PAYLOAD - 1) / PAYLOAD;
    }

    /** Puts behind the first n bytes of an image what makes them whole cells; answers how many. */
    private static int closeFrame(int[] image, int n) {
        if (n < 1 || n > FRAME_BYTES || image.length < IMAGE) {
            return 0;
        }
        int cells = cellsFor(n);
        int last = cells * PAYLOAD;
        Arrays.fill(image, n, last, 0);
        image[last - 6] = n >>> 8;
        image[last - 5] = n & 255;
        int crc = crcOf(image, last - 4);
        for (int k = 1; k <= 4; k++) {
            image[last - k] = crc & 255;
            crc >>>= 8;
        }
        return cells;
    }

    private static int wordAt(int[] bytes, int at) {
        if (at < 0 || at + 4 > bytes.length) {
            return 0;
        }
        return (bytes[at] << 24) | (bytes[at + 1] << 16) | (bytes[at + 2] << 8) | bytes[at + 3];
    }

    /** Cells that wait for the link; their headers are made when they go. */
    private static final class CellQueue {
        final int[] octets = new int[QUEUE_CELLS * PAYLOAD];
        final int[] heads = new int[QUEUE_CELLS];
        int first;
        int size;

        boolean add(int head, int[] from, int at) {
            if (size >= QUEUE_CELLS || at < 0 || at + PAYLOAD > from.length) {
                return false;
            }
            int place = (first + size) % QUEUE_CELLS;
            heads[place] = head;
            System.arraycopy(from, at, octets, place * PAYLOAD, PAYLOAD);
            size++;
            return true;
        }

        /** Moves the first cell's payload to a place in a row; answers its header but for the HEC. */
        int takeFirst(int[] to, int at) {
            if (size < 1 || at < 0 || at + PAYLOAD > to.length) {
                return IDLE_HEAD;
            }
            int place = first;
            System.arraycopy(octets, place * PAYLOAD, to, at, PAYLOAD);
            first = (first + 1) % QUEUE_CELLS;
            size--;
            return heads[place];
        }
    }

    /** One way over a link: its queues, what spoils its cells, what is on it, and its receiver. */
    private static final class Direction {
        final CellQueue messages = new CellQueue();
        final CellQueue data = new CellQueue();
        final Receiver receiver = new Receiver();
        final Assembler assembler = new Assembler();
        final int[] wire = new int[CELLS_A_TICK * CELL];
        int onWire;
        final int[] damageKinds = new int[MOST_DAMAGES];
        final int[] damageCells = new int[MOST_DAMAGES];
        final int[] damageOctets = new int[MOST_DAMAGES];
        final int[] damageMasks = new int[MOST_DAMAGES];
        int damages;
        int cellsPut;
        int lost;
        int spoilt;
        final int[] unit = new int[IMAGE];
        int unitLength;

        int addDamage(int kind, int k, int octet, int mask) {
            if (damages >= MOST_DAMAGES) {
                return FULL;
            }
            damageKinds[damages] = kind;
            damageCells[damages] = cellsPut + k;
            damageOctets[damages] = octet;
            damageMasks[damages] = mask;
            damages++;
            return damages;
        }

        /** Puts a tick's cells on the link; answers how many of them are idle. */
        int putCells() {
            int idle = 0;
            onWire = 0;
            for (int k = 0; k < CELLS_A_TICK; k++) {
                int head = IDLE_HEAD;
                if (messages.size > 0) {
                    head = messages.takeFirst(wire, onWire + HEAD);
                } else if (data.size > 0) {
                    head = data.takeFirst(wire, onWire + HEAD);
                } else {
                    Arrays.fill(wire, onWire + HEAD, onWire + CELL, IDLE_OCTET);
                    idle++;
                }
                putHeader(head);
                onWire += damages > 0 ? spoilCell() : CELL;
                cellsPut++;
            }
            return idle;
        }

        private void putHeader(int head) {
            wire[onWire] = head >>> 24;
            wire[onWire + 1] = (head >>> 16) & 255;
            wire[onWire + 2] = (head >>> 8) & 255;
            wire[onWire + 3] = head & 255;
            wire[onWire + 4] = hecOf(head);
        }

        /** Uses up the damages of the cell that begins at onWire; answers how many octets of it come. */
        private int spoilCell() {
            int come = CELL;
            int kept = 0;
            for (int i = 0; i < damages; i++) {
                if (damageCells[i] != cellsPut) {
                    damageKinds[kept] = damageKinds[i];
                    damageCells[kept] = damageCells[i];
                    damageOctets[kept] = damageOctets[i];
                    damageMasks[kept] = damageMasks[i];
                    kept++;
                } else if (damageKinds[i] == FLIP) {
                    wire[onWire + damageOctets[i]] ^= damageMasks[i];
                } else {
                    come = Math.min(come, damageKinds[i] == LOSE ? 0 : CELL - 1);
                }
            }
            damages = kept;
            return come;
        }

        void addData(int head, int[] from, int at) {
            if (!data.add(head, from, at)) {
                lost++;
            }
        }

        void word(int value) {
            for (int shift = 24; shift >= 0 && unitLength < FRAME_BYTES; shift -= 8) {
                unit[unitLength] = (value >>> shift) & 255;
                unitLength++;
            }
        }

        void row(int[] from, int at, int length) {
            if (at < 0 || length < 0 || at + length > from.length || unitLength + length > FRAME_BYTES) {
                return;
            }
            System.arraycopy(from, at, unit, unitLength, length);
            unitLength += length;
        }

        /** Ends the unit of the words and the row that were told, and queues it, if all its cells fit. */
        void sendUnit(int kind, int n) {
            word((kind << 24) | n);
            int cells = closeFrame(unit, unitLength);
            unitLength = 0;
            if (messages.size + cells > QUEUE_CELLS) {
                lost += cells;
                return;
            }
            for (int c = 0; c < cells; c++) {
                messages.add((MESSAGE_CHANNEL << 4) | (c == cells - 1 ? 2 : 0), unit, c * PAYLOAD);
            }
        }

        int tell(int what) {
            switch (what) {
                case 0: return receiver.state;
                case 1: return receiver.state == Receiver.SYNC && receiver.detection ? 1 : 0;
                case 2: return receiver.run;
                case 3: return receiver.taken;
                case 4: return receiver.thrown;
                case 5: return receiver.putRight;
                case 6: return spoilt;
                case 7: return lost;
                case 8: return messages.size;
                case 9: return data.size;
                default: return BAD;
            }
        }
    }

    /** Finds cells in a stream of octets and puts their headers right. */
    private static final class Receiver {
        static final int HUNT = 0, PRESYNC = 1, SYNC = 2;
        private static final int RIGHT_FOR_SYNC = 6, WRONG_FOR_HUNT = 7;

        final int[] payload = new int[PAYLOAD];
        int state = HUNT;
        boolean detection;
        /** Right headers in a row of PRESYNC, wrong ones in a row of SYNC. */
        int run;
        int taken;
        int thrown;
        int putRight;
        int head;
        private int hec;
        /** Octets of the cell that came, or in HUNT octets since it began. */
        private int place;
        private boolean keep;
        /** A cell is taken with the octet that came last. */
        boolean ready;

        /** Takes at least one octet, and none behind the end of a cell; answers how many. */
        int take(int[] octets, int from, int to) {
            ready = false;
            if (from < 0 || from >= to || to > octets.length) {
                return 1;
            }
            if (state == HUNT || place < HEAD) {
                headerOctet(octets[from]);
                return 1;
            }
            int n = Math.min(to - from, CELL - place);
            if (keep) {
                System.arraycopy(octets, from, payload, place - HEAD, n);
            }
            place += n;
            if (place >= CELL) {
                place = 0;
                ready = keep;
                taken += keep ? 1 : 0;
            }
            return n;
        }

        private void headerOctet(int octet) {
            head = head << 8 | hec;
            hec = octet;
            place++;
            if (place < HEAD) {
                return;
            }
            boolean right = hecOf(head) == hec;
            if (state == HUNT) {
                if (right) {
                    state = PRESYNC;
                    run = 1;
                    place = HEAD;
                    keep = false;
                }
            } else if (state == PRESYNC) {
                presyncHeader(right);
            } else {
                syncHeader(right);
            }
        }

        private void presyncHeader(boolean right) {
            if (!right) {
                hunt();
                return;
            }
            run++;
            if (run >= RIGHT_FOR_SYNC) {
                state = SYNC;
                run = 0;
                detection = false;
                keep = true;
            }
        }

        private void syncHeader(boolean right) {
            keep = right;
            if (right) {
                run = 0;
                detection = false;
                return;
            }
            run++;
            if (run >= WRONG_FOR_HUNT) {
                hunt();
                return;
            }
            int bit = detection ? -1 : wrongBit(head, hec);
            detection = true;
            if (bit < 0) {
                thrown++;
                return;
            }
            keep = true;
            putRight++;
            head ^= bit < 32 ? 1 << (31 - bit) : 0;
        }

        private void hunt() {
            state = HUNT;
            run = 0;
            place = 0;
            keep = false;
            detection = false;
        }
    }

    /** Puts the cells of one channel together to frames. */
    private static final class Assembler {
        static final int PART = 0, WHOLE = 1, SPOILT = 2;

        final int[] bytes = new int[IMAGE];
        private int cells;
        int length;

        int add(int[] payload, boolean last) {
            if (cells >= FRAME_CELLS || payload.length < PAYLOAD) {
                return PART;
            }
            System.arraycopy(payload, 0, bytes, cells * PAYLOAD, PAYLOAD);
            cells++;
            if (!last && cells < FRAME_CELLS) {
                return PART;
            }
            int came = cells;
            cells = 0;
            return last && isWhole(came) ? WHOLE : SPOILT;
        }

        private boolean isWhole(int came) {
            int end = came * PAYLOAD;
            length = (bytes[end - 6] << 8) | bytes[end - 5];
            return length >= 1 && length <= FRAME_BYTES && cellsFor(length) == came
                && crcOf(bytes, end - 4) == wordAt(bytes, end - 4);
        }
    }

    /** Places for messages: a row in which they wait, or places by the number that they go with. */
    private static final class Messages {
        final int places;
        final int[] bytes;
        final int[] lengths;
        /** Of those sent: the P at which each went last, and whether it is to go again. */
        final int[] polls;
        final boolean[] again;
        int first;
        int size;

        Messages(int places) {
            int n = Math.max(1, places);
            this.places = n;
            bytes = new int[n * MESSAGE_BYTES];
            lengths = new int[n];
            polls = new int[n];
            again = new boolean[n];
        }

        void clearAll() {
            first = 0;
            size = 0;
            for (int i = 0; i < places; i++) {
                lengths[i] = 0;
                again[i] = false;
            }
        }

        void clear(int place) {
            if (place >= 0 && place < places) {
                lengths[place] = 0;
                again[place] = false;
            }
        }

        void put(int place, int[] from, int at, int length) {
            if (place < 0 || place >= places || length < 0 || length > MESSAGE_BYTES
                || at < 0 || at + length > from.length) {
                return;
            }
            System.arraycopy(from, at, bytes, place * MESSAGE_BYTES, length);
            lengths[place] = length;
        }

        /** Begins a message of calls behind those that wait; false: it is refused. */
        boolean begin(int type, int reference, boolean own, int elementBytes) {
            if (size >= places) {
                return false;
            }
            int place = (first + size) % places;
            int at = place * MESSAGE_BYTES;
            bytes[at] = Signal.FIRST;
            bytes[at + 1] = Signal.SECOND;
            bytes[at + 2] = ((reference >>> 16) & 127) | (own ? 0 : 128);
            bytes[at + 3] = (reference >>> 8) & 255;
            bytes[at + 4] = reference & 255;
            bytes[at + 5] = type;
            bytes[at + 6] = Signal.MARK;
            bytes[at + 7] = 0;
            bytes[at + 8] = elementBytes;
            lengths[place] = Signal.PREFIX;
            size++;
            return true;
        }

        /** Writes an element of one or two bytes behind the message that was begun last. */
        void element(int kind, int octets, int value) {
            int place = (first + Math.max(0, size - 1)) % places;
            int length = lengths[place];
            if (size < 1 || length + Signal.ELEMENT_PREFIX + octets > MESSAGE_BYTES) {
                return;
            }
            int at = place * MESSAGE_BYTES + length;
            bytes[at] = kind;
            bytes[at + 1] = Signal.MARK;
            bytes[at + 2] = 0;
            bytes[at + 3] = octets;
            for (int k = 0; k < octets; k++) {
                bytes[at + Signal.ELEMENT_PREFIX + k] = (value >>> (8 * (octets - 1 - k))) & 255;
            }
            lengths[place] = length + Signal.ELEMENT_PREFIX + octets;
        }

        void dropFirst() {
            if (size > 0) {
                first = (first + 1) % places;
                size--;
            }
        }
    }

    /** One side's line: brings messages over the link once each and in order. */
    private static final class Line {
        static final int IDLE = 0, BEGINNING = 1, READY = 2, RESETTING = 3, ENDING = 4;
        static final int BEGIN = 1, BEGUN = 2, END = 3, ENDED = 4, RESET = 5, RESET_DONE = 6, DATA = 8,
            RECOVER = 9, POLL = 10, STATUS = 11, GAP = 12, RECOVERED = 15;
        /** What a unit that came means for others than the line. */
        static final int NOTHING = 0, CALLS_OVER = 1, WRONG = 2;
        private static final int ROW = 10, LIST = 12, DATA_A_POLL = 5;
        private static final int ASK_TICKS = 5, ASK_TIMES = 4;
        private static final int STATUS_TICKS = 30, POLL_TICKS = 4, IDLE_POLL_TICKS = 20;

        private final Direction out;
        final Messages waiting = new Messages(ROW);
        private final Messages sent = new Messages(WINDOW);
        private final Messages ahead = new Messages(WINDOW);
        int state = IDLE;
        private int s, a, may, p, pa;
        private int r, h;
        private int cuts;
        private int lastNumber;
        private int lastBegin;
        private int lastReset;
        /** What it asked with last, and how often. */
        private int asked;
        private int tries;
        /** When it asked last, READY by a POLL (or became READY), otherwise to be in another state. */
        private int askedAt;
        private int dataSincePoll;
        private int lastStatus;

        Line(Direction out) {
            this.out = out;
        }

        int tell(int what) {
            switch (what) {
                case 0: return state;
                case 1: return s;
                case 2: return a;
                case 3: return may;
                case 4: return p;
                case 5: return pa;
                case 6: return r;
                case 7: return h;
                case 8: return waiting.size;
                case 9: return s - a;
                case 10: return cameAhead();
                case 11: return cuts;
                default: return BAD;
            }
        }

        private int cameAhead() {
            int n = 0;
            for (int i = 0; i < WINDOW; i++) {
                n += ahead.lengths[i] > 0 ? 1 : 0;
            }
            return n;
        }

        private void anew(int mayNow) {
            s = 0;
            a = 0;
            may = mayNow;
            p = 0;
            pa = 0;
            r = 0;
            h = 0;
            dataSincePoll = 0;
            sent.clearAll();
            ahead.clearAll();
        }

        private void becomeReady(int time) {
            anew(WINDOW);
            state = READY;
            askedAt = time;
            lastStatus = time;
        }

        private void cut() {
            state = IDLE;
            cuts++;
            waiting.clearAll();
            anew(0);
        }

        /** Sends what asks for another state, again and again till it is answered. */
        void ask(int newState, int kind, int time) {
            state = newState;
            asked = kind;
            tries = 0;
            if (kind != END) {
                lastNumber++;
            }
            askAgain(time);
        }

        private void askAgain(int time) {
            tries++;
            askedAt = time;
            if (asked == END) {
                out.sendUnit(END, 0);
            } else {
                out.word(WINDOW);
                out.sendUnit(asked, lastNumber);
            }
        }

        /** Answers whether the side is cut by a timer. */
        boolean timers(int time) {
            if (state == IDLE) {
                return false;
            }
            boolean givenUp = false;
            if (state != READY) {
                boolean due = time - askedAt >= ASK_TICKS;
                givenUp = due && tries >= ASK_TIMES;
                if (due && !givenUp) {
                    askAgain(time);
                }
            } else if (time - lastStatus >= STATUS_TICKS) {
                givenUp = true;
            } else if (time - askedAt >= (s > a ? POLL_TICKS : IDLE_POLL_TICKS)) {
                poll(time);
            }
            if (givenUp) {
                out.sendUnit(END, 1);
                cut();
            }
            return givenUp;
        }

        private void poll(int time) {
            p++;
            dataSincePoll = 0;
            askedAt = time;
            out.word(p);
            out.sendUnit(POLL, s);
        }

        void turn(int time) {
            if (state == IDLE && waiting.size > 0) {
                ask(BEGINNING, BEGIN, time);
            }
            if (state != READY) {
                return;
            }
            for (int n = a; n < s; n++) {
                if (sent.again[n % WINDOW] && sendData(n)) {
                    poll(time);
                }
            }
            for (int k = 0; k < ROW && waiting.size > 0 && s < may && s - a < WINDOW; k++) {
                int from = waiting.first;
                sent.put(s % WINDOW, waiting.bytes, from * MESSAGE_BYTES, waiting.lengths[from]);
                waiting.dropFirst();
                s++;
                if (sendData(s - 1)) {
                    poll(time);
                }
            }
        }

        /** Answers whether a POLL is due behind it. */
        private boolean sendData(int n) {
            int place = n % WINDOW;
            sent.polls[place] = p;
            sent.again[place] = false;
            dataSincePoll++;
            out.row(sent.bytes, place * MESSAGE_BYTES, sent.lengths[place]);
            out.sendUnit(DATA, n);
            return dataSincePoll >= DATA_A_POLL;
        }

        /** Deals with a unit; answers what else is to be done: NOTHING, CALLS_OVER or WRONG. */
        int unitCame(int[] unit, int length, int time) {
            if (!isUnit(unit, length)) {
                return NOTHING;
            }
            int last = wordAt(unit, length - 4);
            int kind = last >>> 24;
            int n = last & 0xFFFFFF;
            switch (kind) {
                case BEGIN:
                    return beginCame(n, time);
                case END:
                    return endCame();
                case RESET:
                case RECOVER:
                    resetCame(kind, n, time);
                    return NOTHING;
                case BEGUN:
                case RESET_DONE:
                case RECOVERED:
                case ENDED:
                    answerCame(kind, time);
                    return NOTHING;
                default:
                    break;
            }
            if (state != READY) {
                return NOTHING;
            }
            switch (kind) {
                case DATA:
                    dataCame(unit, length - 4, n);
                    return NOTHING;
                case POLL:
                    pollCame(wordAt(unit, 0), n);
                    return NOTHING;
                case STATUS:
                    return statusCame(unit, (length - 12) / 4, n, time) ? NOTHING : WRONG;
                default:
                    return gapCame(wordAt(unit, 0), wordAt(unit, 4), n) ? NOTHING : WRONG;
            }
        }

        private static boolean isUnit(int[] unit, int length) {
            if (length < 4 || length > unit.length) {
                return false;
            }
            int last = wordAt(unit, length - 4);
            int n = last & 0xFFFFFF;
            int m = wordAt(unit, length - 8);
            switch (last >>> 24) {
                case BEGIN:
                case RESET:
                case RECOVER:
                    return length == 8 && m == WINDOW && n != 0;
                case BEGUN:
                case RESET_DONE:
                case RECOVERED:
                    return length == 8 && m == WINDOW && n == 0;
                case END:
                    return length == 4 && n <= 1;
                case ENDED:
                    return length == 4 && n == 0;
                case DATA:
                    return length > 4 && length <= 4 + MESSAGE_BYTES;
                case POLL:
                    return length == 8;
                case STATUS:
                    return length >= 12 && length <= 12 + 4 * LIST && length % 4 == 0 && m == n + WINDOW;
                case GAP:
                    return length == 16 && m == n + WINDOW;
                default:
                    return false;
            }
        }

        private int beginCame(int n, int time) {
            boolean same = state == READY && n == lastBegin;
            boolean over = !same && (state == READY || state == RESETTING || state == ENDING);
            lastBegin = n;
            if (!same) {
                becomeReady(time);
            }
            out.word(r + WINDOW);
            out.sendUnit(BEGUN, 0);
            return over ? CALLS_OVER : NOTHING;
        }

        private int endCame() {
            boolean isCut = state != IDLE;
            if (isCut) {
                cut();
            }
            out.sendUnit(ENDED, 0);
            return isCut ? CALLS_OVER : NOTHING;
        }

        private void resetCame(int kind, int n, int time) {
            boolean same = state == READY && n == lastReset;
            lastReset = n;
            if (state == IDLE) {
                out.sendUnit(END, 1);
            }
            if (state != READY && state != RESETTING) {
                return;
            }
            if (!same) {
                becomeReady(time);
            }
            out.word(r + WINDOW);
            out.sendUnit(kind == RESET ? RESET_DONE : RECOVERED, 0);
        }

        private void answerCame(int kind, int time) {
            if (kind == ENDED) {
                if (state == ENDING) {
                    state = IDLE;
                    anew(0);
                }
                return;
            }
            boolean due = state == BEGINNING && kind == BEGUN
                || state == RESETTING && asked == RESET && kind == RESET_DONE
                || state == RESETTING && asked == RECOVER && kind == RECOVERED;
            if (due) {
                becomeReady(time);
            }
        }

        private void dataCame(int[] unit, int length, int n) {
            if (n < r || n >= r + WINDOW) {
                return;
            }
            if (n > h) {
                out.word(h);
                out.word(n);
                out.word(r + WINDOW);
                out.sendUnit(GAP, r);
            }
            h = Math.max(h, n + 1);
            ahead.put(n % WINDOW, unit, 0, length);
        }

        /** Moves the message whose turn it is to a row; answers its length, 0 if it is not there. */
        int takeNext(int[] to) {
            int place = r % WINDOW;
            int length = ahead.lengths[place];
            if (length < 1 || length > to.length) {
                return 0;
            }
            System.arraycopy(ahead.bytes, place * MESSAGE_BYTES, to, 0, length);
            ahead.clear(place);
            r++;
            h = Math.max(h, r);
            return length;
        }

        private void pollCame(int number, int n) {
            h = Math.max(h, Math.min(n, r + WINDOW));
            if (h > r) {
                tellList();
            }
            out.word(number);
            out.word(r + WINDOW);
            out.sendUnit(STATUS, r);
        }

        private void tellList() {
            out.word(r);
            int told = 1;
            boolean there = false;
            for (int n = r + 1; n < h && told < LIST; n++) {
                boolean isThere = ahead.lengths[n % WINDOW] > 0;
                if (isThere != there) {
                    out.word(n);
                    told++;
                    there = isThere;
                }
            }
            if (told < LIST) {
                out.word(h);
            }
        }

        /** Answers whether the STATUS is as it may be. */
        private boolean statusCame(int[] unit, int listed, int n, int time) {
            int number = wordAt(unit, 4 * listed);
            if (n < a || n > s || number < pa || number > p) {
                return false;
            }
            int least = n;
            for (int i = 0; i < listed; i++) {
                int next = wordAt(unit, 4 * i);
                if (next < least || next > s) {
                    return false;
                }
                least = next + 1;
            }
            acknowledge(n);
            pa = number;
            lastStatus = time;
            for (int i = 0; i + 1 < listed; i += 2) {
                markAgain(wordAt(unit, 4 * i), wordAt(unit, 4 * i + 4), number);
            }
            return true;
        }

        private boolean gapCame(int from, int to, int n) {
            if (n < a || from < n || to <= from || to > s) {
                return false;
            }
            acknowledge(n);
            markAgain(from, to, p + 1);
            return true;
        }

        private void acknowledge(int n) {
            for (int i = a; i < n && i < s; i++) {
                sent.clear(i % WINDOW);
            }
            a = n;
            may = n + WINDOW;
        }

        /** Those that went last with a P below the limit are to go again. */
        private void markAgain(int from, int to, int limit) {
            for (int n = Math.max(from, a); n < to && n < s; n++) {
                if (sent.polls[n % WINDOW] < limit) {
                    sent.again[n % WINDOW] = true;
                }
            }
        }
    }

    /** A call as one side knows it. */
    private static final class Call {
        static final int OVER = 0, ASKED = 1, PROCEEDING = 3, PRESENT = 6, ANSWERED = 8, PRESENTED = 9,
            ACTIVE = 10, RELEASING = 11;
        static final int CAUSE_NO_END = 1, CAUSE_HUNG = 16, CAUSE_BUSY = 17, CAUSE_NO_RATE = 37, CAUSE_CUT = 41,
            CAUSE_TOO_MANY = 47, CAUSE_NO_CALL = 81, CAUSE_WRONG = 96, CAUSE_LATE = 102;
        private static final int FRAMES = 4;

        final Side side;
        final int reference;
        final boolean own;
        int number;
        int state;
        int channel = NONE;
        int rate;
        int other = NONE;
        int cause;
        /** The tick of its timer, 0 if none is set, and whether it went off before. */
        int due;
        boolean repeated;
        /** At the switch: the same call at the other link. */
        Call partner;
        /** Only while an end's call is active: frames cut to cells, and what came of one. */
        private int[][] frames;
        private int[] frameCells;
        private Assembler assembler;
        private int firstFrame;
        int framesWaiting;
        private int cellsGone;

        Call(Side side, int reference, boolean own) {
            this.side = side;
            this.reference = reference;
            this.own = own;
        }

        void enter(int newState, int newDue) {
            state = newState;
            due = newDue;
            repeated = false;
            if (newState != ACTIVE) {
                frames = null;
                frameCells = null;
                assembler = null;
                framesWaiting = 0;
            }
        }

        /** Its timer went off once; it is set once more. */
        void repeat(int newDue) {
            due = newDue;
            repeated = true;
        }

        boolean isOpen() {
            return state != OVER;
        }

        /** Asks the other side to clear it, if it is not cleared or being cleared. */
        void release(int why, int time) {
            if (state == OVER || state == RELEASING) {
                return;
            }
            cause = why;
            enter(RELEASING, time + Side.RELEASE_TICKS);
            side.sayCause(Signal.RELEASE, reference, own, why);
        }

        void finish(int why) {
            cause = why;
            enter(OVER, 0);
        }

        /** A frame waits behind the others; false: as many as may wait do. */
        boolean addFrame(int[] bytes, int length) {
            if (framesWaiting >= FRAMES || length < 1 || length > FRAME_BYTES || length > bytes.length) {
                return false;
            }
            if (frames == null || frameCells == null) {
                frames = new int[FRAMES][IMAGE];
                frameCells = new int[FRAMES];
                firstFrame = 0;
                cellsGone = 0;
            }
            int place = (firstFrame + framesWaiting) % FRAMES;
            System.arraycopy(bytes, 0, frames[place], 0, length);
            frameCells[place] = closeFrame(frames[place], length);
            framesWaiting++;
            return true;
        }

        /** The cells of a tick; a frame waits till its last cell is gone. */
        void sendCells(Direction out) {
            for (int k = 0; k < rate && framesWaiting > 0 && frames != null && frameCells != null; k++) {
                boolean last = cellsGone + 1 >= frameCells[firstFrame];
                out.addData((channel << 4) | (last ? 2 : 0), frames[firstFrame], cellsGone * PAYLOAD);
                cellsGone++;
                if (last) {
                    cellsGone = 0;
                    firstFrame = (firstFrame + 1) % FRAMES;
                    framesWaiting--;
                }
            }
        }

        Assembler assembler() {
            if (assembler == null) {
                assembler = new Assembler();
            }
            return assembler;
        }
    }

    /** A message of calls that came. */
    private static final class Signal {
        static final int SETUP = 5, PROCEEDING = 2, CONNECT = 7, CONFIRM = 15, RELEASE = 77, COMPLETE = 90;
        static final int CALLED = 112, CALLER = 108, RATE = 89, CHANNEL = 90, CAUSE = 8;
        static final int FIRST = 9, SECOND = 3, MARK = 128, PREFIX = 9, ELEMENT_PREFIX = 4;

        int type;
        int reference;
        /** Whether the side that sent it made the reference. */
        boolean bySender;
        int called;
        int caller;
        int rate;
        int channel;
        int cause;
        private int at;

        /** Answers whether the bytes are just such a message as this sender's are. */
        boolean read(int[] bytes, int length, boolean ofSwitch) {
            if (length < PREFIX || length > bytes.length || bytes[0] != FIRST || bytes[1] != SECOND
                || bytes[6] != MARK || ((bytes[7] << 8) | bytes[8]) != length - PREFIX) {
                return false;
            }
            bySender = bytes[2] < 128;
            reference = ((bytes[2] & 127) << 16) | (bytes[3] << 8) | bytes[4];
            type = bytes[5];
            at = PREFIX;
            return readElements(bytes, length, ofSwitch) && at == length;
        }

        private boolean readElements(int[] bytes, int length, boolean ofSwitch) {
            switch (type) {
                case SETUP:
                    called = element(bytes, length, CALLED, 1);
                    rate = element(bytes, length, RATE, 1);
                    caller = ofSwitch ? element(bytes, length, CALLER, 1) : 0;
                    channel = ofSwitch ? element(bytes, length, CHANNEL, 2) : 0;
                    return bySender && called >= 0 && rate >= 0 && caller >= 0 && channel >= 0;
                case PROCEEDING:
                    channel = ofSwitch ? element(bytes, length, CHANNEL, 2) : 0;
                    return channel >= 0;
                case CONNECT:
                case CONFIRM:
                    return true;
                case RELEASE:
                case COMPLETE:
                    cause = element(bytes, length, CAUSE, 1);
                    return cause >= 0;
                default:
                    return false;
            }
        }

        /** The value of the element that must come next, of one or two bytes; -1: it does not. */
        private int element(int[] bytes, int length, int kind, int size) {
            int start = at;
            int end = start + ELEMENT_PREFIX + size;
            if (end > length || length > bytes.length
                || wordAt(bytes, start) != ((kind << 24) | (MARK << 16) | size)) {
                return -1;
            }
            at = end;
            return size == 1 ? bytes[end - 1] : (bytes[end - 2] << 8) | bytes[end - 1];
        }
    }

    /** One side of a link: its line and its calls. */
    private abstract static class Side {
        static final int AGAIN_TICKS = 8, ANSWER_TICKS = 40, RELEASE_TICKS = 10, CONFIRM_TICKS = 10;

        final int link;
        final Line line;
        /**
         * By references as they came: 40 calls at an end; at the switch as many as it let through, each of which takes
         * one of the 512 calls of a run.
         */
        final ArrayList<Call> references = new ArrayList<Call>();
        int lastReference;

        Side(int link, Line line) {
            this.link = link;
            this.line = line;
        }

        abstract void setupCame(Signal signal, int time);

        abstract void progress(Call call, Signal signal, int time);

        abstract void timer(Call call, int time);

        int openCalls() {
            int n = 0;
            for (int i = 0; i < references.size(); i++) {
                n += references.get(i).isOpen() ? 1 : 0;
            }
            return n;
        }

        private int placeOfReference(int reference, boolean own) {
            for (int i = 0; i < references.size(); i++) {
                Call call = references.get(i);
                if (call.reference == reference && call.own == own) {
                    return i;
                }
            }
            return -1;
        }

        /** A reference that comes once more keeps its place among the others. */
        void keep(Call call) {
            int place = placeOfReference(call.reference, call.own);
            if (place < 0) {
                references.add(call);
            } else {
                references.set(place, call);
            }
        }

        void came(Signal signal, int time) {
            int place = placeOfReference(signal.reference, !signal.bySender);
            Call call = place < 0 ? null : references.get(place);
            if (call == null || !call.isOpen()) {
                if (signal.type == Signal.SETUP) {
                    setupCame(signal, time);
                } else if (signal.type == Signal.RELEASE) {
                    sayCause(Signal.COMPLETE, signal.reference, !signal.bySender, Call.CAUSE_NO_CALL);
                }
            } else if (signal.type == Signal.RELEASE || signal.type == Signal.COMPLETE) {
                cleared(call, signal, time);
            } else if (signal.type != Signal.SETUP) {
                progress(call, signal, time);
            }
        }

        private void cleared(Call call, Signal signal, int time) {
            if (signal.type == Signal.RELEASE) {
                sayCause(Signal.COMPLETE, call.reference, call.own, signal.cause);
            }
            call.finish(call.state == Call.RELEASING ? call.cause : signal.cause);
            if (call.partner != null) {
                call.partner.release(signal.cause, time);
            }
        }

        /** All calls of a side that is cut. */
        void allOver(int time) {
            for (int i = 0; i < references.size(); i++) {
                Call call = references.get(i);
                if (!call.isOpen()) {
                    continue;
                }
                call.finish(Call.CAUSE_CUT);
                if (call.partner != null) {
                    call.partner.release(Call.CAUSE_CUT, time);
                }
            }
        }

        void callTimers(int time) {
            for (int i = 0; i < references.size(); i++) {
                Call call = references.get(i);
                if (!call.isOpen() || call.due != time) {
                    continue;
                }
                if (call.state != Call.RELEASING) {
                    timer(call, time);
                } else if (call.repeated) {
                    call.finish(call.cause);
                } else {
                    call.repeat(time + RELEASE_TICKS);
                    sayCause(Signal.RELEASE, call.reference, call.own, call.cause);
                }
            }
        }

        void sayPlain(int type, Call call) {
            line.waiting.begin(type, call.reference, call.own, 0);
        }

        void sayCause(int type, int reference, boolean own, int cause) {
            if (line.waiting.begin(type, reference, own, 5)) {
                line.waiting.element(Signal.CAUSE, 1, cause);
            }
        }
    }

    /** An end system at its side of the link. */
    private static final class EndSide extends Side {
        static final int AT_ONCE = 0, LATER = 1, NEVER = 2, LATEST = 30;
        private static final int KEPT = 20;

        int policyKind = AT_ONCE;
        int policyTicks = 1;
        final Call[] numbered = new Call[CALLS_IN_ALL];
        int had;
        int receivedInAll;
        final int[] receivedBytes = new int[KEPT * FRAME_BYTES];
        final int[] receivedLengths = new int[KEPT];
        final int[] receivedCalls = new int[KEPT];
        final int[] receivedTimes = new int[KEPT];

        EndSide(int link, Line line) {
            super(link, line);
        }

        private boolean hasRoom() {
            return had < CALLS_IN_ALL && openCalls() < CALLS_OPEN;
        }

        private void add(Call call) {
            if (had < CALLS_IN_ALL) {
                call.number = had;
                numbered[had] = call;
                had++;
                keep(call);
            }
        }

        int ask(int to, int rate, int time) {
            if (!hasRoom() || line.waiting.size >= line.waiting.places) {
                return FULL;
            }
            lastReference++;
            Call call = new Call(this, lastReference, true);
            call.other = to;
            call.rate = rate;
            call.enter(Call.ASKED, time + AGAIN_TICKS);
            add(call);
            saySetup(call);
            return call.number;
        }

        private void saySetup(Call call) {
            if (line.waiting.begin(Signal.SETUP, call.reference, call.own, 10)) {
                line.waiting.element(Signal.CALLED, 1, call.other);
                line.waiting.element(Signal.RATE, 1, call.rate);
            }
        }

        void setupCame(Signal signal, int time) {
            if (!hasRoom()) {
                sayCause(Signal.COMPLETE, signal.reference, false, Call.CAUSE_TOO_MANY);
                return;
            }
            Call call = new Call(this, signal.reference, false);
            call.other = signal.caller;
            call.rate = signal.rate;
            call.channel = signal.channel;
            add(call);
            if (policyKind == NEVER) {
                call.finish(Call.CAUSE_BUSY);
                sayCause(Signal.COMPLETE, call.reference, false, Call.CAUSE_BUSY);
            } else if (policyKind == LATER) {
                call.enter(Call.PRESENT, time + policyTicks);
                sayPlain(Signal.PROCEEDING, call);
            } else {
                answer(call, time);
            }
        }

        private void answer(Call call, int time) {
            call.enter(Call.ANSWERED, time + CONFIRM_TICKS);
            sayPlain(Signal.CONNECT, call);
        }

        void progress(Call call, Signal signal, int time) {
            if (signal.type == Signal.PROCEEDING && call.state == Call.ASKED) {
                call.channel = signal.channel;
                call.enter(Call.PROCEEDING, time + ANSWER_TICKS);
            } else if (signal.type == Signal.CONNECT && call.state == Call.ASKED) {
                call.release(Call.CAUSE_WRONG, time);
            } else if (signal.type == Signal.CONNECT && call.state == Call.PROCEEDING) {
                call.enter(Call.ACTIVE, 0);
                sayPlain(Signal.CONFIRM, call);
            } else if (signal.type == Signal.CONFIRM && call.state == Call.ANSWERED) {
                call.enter(Call.ACTIVE, 0);
            }
        }

        void timer(Call call, int time) {
            if (call.state == Call.PRESENT) {
                answer(call, time);
            } else if (call.state != Call.ASKED) {
                call.release(Call.CAUSE_LATE, time);
            } else if (call.repeated) {
                call.finish(Call.CAUSE_LATE);
            } else {
                call.repeat(time + AGAIN_TICKS);
                saySetup(call);
            }
        }

        void sendCells(Direction out) {
            for (int i = 0; i < had; i++) {
                if (numbered[i].state == Call.ACTIVE) {
                    numbered[i].sendCells(out);
                }
            }
        }

        /** The first active call of a channel, or null. */
        Call active(int channel) {
            for (int i = 0; i < had; i++) {
                if (numbered[i].state == Call.ACTIVE && numbered[i].channel == channel) {
                    return numbered[i];
                }
            }
            return null;
        }

        int dataCame(Call call, int[] payload, boolean last, int time) {
            Assembler assembler = call.assembler();
            int how = assembler.add(payload, last);
            if (how == Assembler.WHOLE) {
                int place = receivedInAll % KEPT;
                System.arraycopy(assembler.bytes, 0, receivedBytes, place * FRAME_BYTES, assembler.length);
                receivedLengths[place] = assembler.length;
                receivedCalls[place] = call.number;
                receivedTimes[place] = time;
                receivedInAll++;
            }
            return how;
        }

        /** Where the i-th latest frame is kept, or -1. */
        int placeOfFrame(int i) {
            if (i < 0 || i >= KEPT || i >= receivedInAll) {
                return -1;
            }
            return (receivedInAll - 1 - i) % KEPT;
        }
    }

    /** The switch at its side of a link. */
    private static final class SwitchSide extends Side {
        private static final int FIRST_CHANNEL = 32;

        private final SwitchSide[] all;

        SwitchSide(int link, Line line, SwitchSide[] all) {
            super(link, line);
            this.all = all;
        }

        int rates() {
            int sum = 0;
            for (int i = 0; i < references.size(); i++) {
                Call call = references.get(i);
                sum += call.isOpen() ? call.rate : 0;
            }
            return sum;
        }

        private static boolean isJoined(Call call) {
            return call.state == Call.ACTIVE && call.partner != null && call.partner.state == Call.ACTIVE;
        }

        int joinedChannels() {
            int n = 0;
            for (int i = 0; i < references.size(); i++) {
                n += isJoined(references.get(i)) ? 1 : 0;
            }
            return n;
        }

        /** The call whose channel here is joined with one of another link, or null. */
        Call joined(int channel) {
            for (int i = 0; i < references.size(); i++) {
                Call call = references.get(i);
                if (call.channel == channel && isJoined(call)) {
                    return call;
                }
            }
            return null;
        }

        int farChannel(int channel) {
            Call call = joined(channel);
            if (call == null || call.partner == null) {
                return NONE;
            }
            return 1000 * call.partner.side.link + call.partner.channel;
        }

        private int leastChannel() {
            int channel = FIRST_CHANNEL;
            for (int k = 0; k < CALLS_OPEN && isTaken(channel); k++) {
                channel++;
            }
            return channel;
        }

        private boolean isTaken(int channel) {
            for (int i = 0; i < references.size(); i++) {
                Call call = references.get(i);
                if (call.isOpen() && call.channel == channel) {
                    return true;
                }
            }
            return false;
        }

        /** Why a SETUP is not let through, or 0. */
        private int refusal(Signal signal) {
            if (signal.called >= all.length || signal.called == link) {
                return Call.CAUSE_NO_END;
            }
            if (signal.rate < 1 || signal.rate > MOST_RATE) {
                return Call.CAUSE_WRONG;
            }
            SwitchSide to = all[signal.called];
            if (openCalls() >= CALLS_OPEN || to.openCalls() >= CALLS_OPEN) {
                return Call.CAUSE_TOO_MANY;
            }
            boolean fits = rates() + signal.rate <= MOST_RATE && to.rates() + signal.rate <= MOST_RATE;
            return fits ? 0 : Call.CAUSE_NO_RATE;
        }

        void setupCame(Signal signal, int time) {
            int cause = refusal(signal);
            if (cause != 0) {
                sayCause(Signal.COMPLETE, signal.reference, false, cause);
                return;
            }
            SwitchSide to = all[signal.called];
            to.lastReference++;
            Call here = new Call(this, signal.reference, false);
            Call there = new Call(to, to.lastReference, true);
            here.partner = there;
            there.partner = here;
            there.other = link;
            here.rate = signal.rate;
            there.rate = signal.rate;
            here.channel = leastChannel();
            there.channel = to.leastChannel();
            here.enter(Call.PROCEEDING, 0);
            there.enter(Call.PRESENT, time + AGAIN_TICKS);
            keep(here);
            to.keep(there);
            sayProceeding(here);
            to.saySetup(there);
        }

        private void sayProceeding(Call call) {
            if (line.waiting.begin(Signal.PROCEEDING, call.reference, call.own, 6)) {
                line.waiting.element(Signal.CHANNEL, 2, call.channel);
            }
        }

        private void saySetup(Call call) {
            if (line.waiting.begin(Signal.SETUP, call.reference, call.own, 21)) {
                line.waiting.element(Signal.CALLED, 1, link);
                line.waiting.element(Signal.RATE, 1, call.rate);
                line.waiting.element(Signal.CALLER, 1, call.other);
                line.waiting.element(Signal.CHANNEL, 2, call.channel);
            }
        }

        void progress(Call call, Signal signal, int time) {
            boolean connects = signal.type == Signal.CONNECT
                && (call.state == Call.PRESENT || call.state == Call.PRESENTED);
            if (signal.type == Signal.PROCEEDING && call.state == Call.PRESENT) {
                call.enter(Call.PRESENTED, time + ANSWER_TICKS);
            } else if (connects && call.partner != null) {
                Call partner = call.partner;
                call.enter(Call.ACTIVE, 0);
                partner.enter(Call.ACTIVE, 0);
                sayPlain(Signal.CONFIRM, call);
                partner.side.sayPlain(Signal.CONNECT, partner);
            }
        }

        void timer(Call call, int time) {
            boolean again = call.state == Call.PRESENT && !call.repeated;
            if (again) {
                call.repeat(time + AGAIN_TICKS);
                saySetup(call);
                return;
            }
            if (call.state == Call.PRESENTED) {
                call.release(Call.CAUSE_LATE, time);
            } else {
                call.finish(Call.CAUSE_LATE);
            }
            if (call.partner != null) {
                call.partner.release(Call.CAUSE_LATE, time);
            }
        }
    }
}
