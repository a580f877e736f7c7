/**
 * Garbles circuits, so that who holds one label of each input works out the outputs and no more.
 * Every answer is a number; what is refused answers one of the negative constants.
 */
public final class GarbledWires {
    public static final int BAD = -1, FULL = -2, STATE = -3, SHORT = -4, NULL = -11, CAST = -13, INDEX = -12, NONE = -9;

    private static final int TAPE_SIZE = 4000;
    private static final int LABEL_SIZE = 16;
    private static final int MOST_CIRCUITS = 6;
    private static final int MOST_GARBLED = 6;
    private static final int MOST_INPUTS = 16;
    private static final int MOST_GATES = 40;
    private static final int MOST_OUTPUTS = 8;
    private static final int MOST_WIRES = 56;
    private static final int MOST_DIGITS = 4;
    private static final int MOST_RUNS_AT_ONCE = 8;
    private static final int RUN_NUMBERS = 65536;
    private static final int ROWS_OF_A_GATE = 4;

    private static final int FIRST_FAULT = -1000;
    private static final int FIRST_FORGED = -100;
    private static final int FORGED = 2;

    private static final int FOUR = 0;
    private static final int THREE = 1;
    private static final int HALVES = 2;

    private static final int BYTES = 0;
    private static final int SHORTS = 1;
    private static final int CHARS = 2;
    private static final int INTS = 3;
    private static final int LONGS = 4;

    private static final int BLANK = ' ';
    private static final int SEMICOLON = ';';
    private static final int ENDS_GATES = '>';
    private static final int AND = '&';
    private static final int OR = '|';
    private static final int AND_NOT = '/';
    private static final int NOT_BOTH = '%';
    private static final int NEITHER = '#';
    private static final int JUST_ONE = '^';
    private static final int NOT = '!';

    /** The slots of the labels at hand in make(). */
    private static final int FIRST = 0;
    private static final int SECOND = 1;
    private static final int RESULT = 2;

    private final Tape tape = new Tape();
    private final CircuitReader reader = new CircuitReader(tape);
    private final Cipher cipher = new Cipher();
    private final Garbler garbler = new Garbler(cipher);
    private final Labels hand = new Labels(RESULT + 1);
    private final Labels spareRun = new Labels(MOST_WIRES);
    private final Circuit[] circuits = new Circuit[MOST_CIRCUITS];
    private final Garbled[] garbledOnes = new Garbled[MOST_GARBLED];
    private int circuitCount;
    private int garbledCount;
    private int placeStatus;

    public GarbledWires() {
        for (int c = 0; c < MOST_CIRCUITS; c++) {
            circuits[c] = new Circuit();
        }
    }

    // ---- the tape, the cipher

    public int feed(long v, int n) {
        if (n < 1 || n > 8) {
            return BAD;
        }
        return tape.append(v, n) ? tape.size : FULL;
    }

    public int clear() {
        return tape.useUp();
    }

    public int key() {
        int had = tape.useUp();
        if (garbledCount > 0) {
            return STATE;
        }
        if (had < LABEL_SIZE) {
            return SHORT;
        }
        cipher.takeKey(tape.eightBytes(0), tape.eightBytes(8));
        return 1;
    }

    public int make(int what, int t) {
        int had = tape.useUp();
        if (what < 0 || what > 3) {
            return BAD;
        }
        if (had < (what == 3 ? 2 * LABEL_SIZE : LABEL_SIZE)) {
            return SHORT;
        }
        hand.putFromTape(FIRST, tape, 0);
        switch (what) {
            case 0:
                cipher.makeBlock(hand, FIRST, RESULT);
                break;
            case 1:
                hand.copy(RESULT, hand, FIRST);
                hand.makeDouble(RESULT);
                break;
            case 2:
                cipher.hashOne(hand, FIRST, t, RESULT);
                break;
            default:
                hand.putFromTape(SECOND, tape, LABEL_SIZE);
                cipher.hashTwo(hand, FIRST, SECOND, t, RESULT);
                break;
        }
        return 1;
    }

    public int result(int i) {
        return isByteOfLabel(i) ? hand.byteOf(RESULT, i) : BAD;
    }

    // ---- circuits

    public int circuit() {
        int had = tape.useUp();
        if (circuitCount >= MOST_CIRCUITS) {
            return FULL;
        }
        int fault = reader.readInto(circuits[circuitCount], had);
        if (fault != 0) {
            return fault;
        }
        circuitCount++;
        return circuitCount - 1;
    }

    public int about(int circuit, int what) {
        Circuit c = circuitAt(circuit);
        if (c == null) {
            return BAD;
        }
        switch (what) {
            case 0:
                return c.inputCount;
            case 1:
                return c.gateCount;
            case 2:
                return c.outputCount;
            case 3:
                return c.tabledCount;
            case 4:
                return c.wireCount();
            default:
                return BAD;
        }
    }

    public int gate(int circuit, int i, int what) {
        Circuit c = circuitAt(circuit);
        if (c == null || i < 0 || i >= c.gateCount) {
            return BAD;
        }
        switch (what) {
            case 0:
                return c.signs[i];
            case 1:
                return c.lefts[i];
            case 2:
                return c.rights[i];
            case 3:
                return c.tabledNumbers[i];
            default:
                return BAD;
        }
    }

    public int output(int circuit, int i) {
        Circuit c = circuitAt(circuit);
        return c == null || i < 0 || i >= c.outputCount ? BAD : c.outputs[i];
    }

    public int plain(int circuit, int inputs) {
        Circuit c = circuitAt(circuit);
        return c == null ? BAD : c.outputTruths(inputs);
    }

    // ---- garbled ones

    public int garble(int circuit, int way, int kind) {
        int had = tape.useUp();
        Circuit c = circuitAt(circuit);
        if (c == null || way < FOUR || way > HALVES || !isKind(kind)) {
            return BAD;
        }
        if (garbledCount >= MOST_GARBLED) {
            return FULL;
        }
        if (had < LABEL_SIZE * c.coinsFor(way)) {
            return SHORT;
        }
        Garbled g = new Garbled(c, circuit, way, kind);
        g.takeCoins(tape);
        int before = cipher.blocksMade;
        garbler.makeTables(g);
        g.blocksToGarble = cipher.blocksMade - before;
        garbledOnes[garbledCount] = g;
        garbledCount++;
        return garbledCount - 1;
    }

    public int told(int garbled, int what) {
        Garbled g = garbledAt(garbled);
        if (g == null) {
            return BAD;
        }
        switch (what) {
            case 0:
                return g.circuitNumber;
            case 1:
                return g.way;
            case 2:
                return g.kind;
            case 3:
                return g.storedRows();
            case 4:
                return g.blocksToGarble;
            case 5:
                return g.labelledWires();
            case 6:
                return g.blocksToWorkOut;
            default:
                return BAD;
        }
    }

    public int label(int garbled, int wire, int truth, int i) {
        Garbled g = garbledAt(garbled);
        if (g == null || !isByteOfLabel(i)) {
            return BAD;
        }
        if (wire == -1) {
            return g.zeros.byteOf(Garbled.DELTA, i);
        }
        if (!g.isWire(wire) || !isTruth(truth)) {
            return BAD;
        }
        int zero = g.zeros.byteOf(wire, i);
        return truth == 0 ? zero : zero ^ g.zeros.byteOf(Garbled.DELTA, i);
    }

    public int row(int garbled, int t, int r, int i) {
        Garbled g = garbledAt(garbled);
        if (g == null || !g.isRow(t, r) || !isByteOfLabel(i)) {
            return BAD;
        }
        return g.isStored(r) ? g.rows.byteOf(Garbled.rowPlace(t, r), i) : NONE;
    }

    public int spoil(int garbled, int t, int r, int i, int mask) {
        Garbled g = garbledAt(garbled);
        if (g == null || !g.isRow(t, r) || !isByteOfLabel(i) || !g.isStored(r)) {
            return BAD;
        }
        int place = Garbled.rowPlace(t, r);
        g.rows.mixByte(place, i, mask);
        return g.rows.byteOf(place, i);
    }

    // ---- runs

    public int choose(int garbled, int k, int truth) {
        Garbled g = garbledAt(garbled);
        if (g == null || !g.isInput(k) || !isTruth(truth)) {
            return BAD;
        }
        g.putLabelFor(truth, k, g.run, k);
        g.noteGiven(k);
        return 1;
    }

    public int encode(int garbled, int inputs) {
        Garbled g = garbledAt(garbled);
        if (g == null) {
            return BAD;
        }
        g.putInputs(inputs, g.run);
        for (int k = 0; k < g.circuit.inputCount; k++) {
            g.noteGiven(k);
        }
        return g.circuit.inputCount;
    }

    public int lay(int garbled, int k, int how) {
        int had = how == -1 ? 0 : tape.useUp();
        Garbled g = garbledAt(garbled);
        if (g == null || !g.isInput(k) || how < -1 || how > 0) {
            return BAD;
        }
        if (how == -1) {
            g.noteMissing(k);
            return 1;
        }
        if (had < LABEL_SIZE) {
            return SHORT;
        }
        g.run.putFromTape(k, tape, 0);
        g.noteGiven(k);
        return 1;
    }

    public int workOut(int garbled) {
        Garbled g = garbledAt(garbled);
        if (g == null) {
            return BAD;
        }
        if (!g.hasAllInputs()) {
            return NULL;
        }
        int before = cipher.blocksMade;
        garbler.follow(g, g.run);
        g.blocksToWorkOut = cipher.blocksMade - before;
        g.workedOut = true;
        return g.circuit.gateCount;
    }

    public int active(int garbled, int wire, int i) {
        Garbled g = garbledAt(garbled);
        if (g == null || !g.isWire(wire) || !isByteOfLabel(i)) {
            return BAD;
        }
        return g.hasLabel(wire) ? g.run.byteOf(wire, i) : NULL;
    }

    public long place(int garbled, int wire, int kind, int i) {
        Garbled g = garbledAt(garbled);
        if (g == null || !g.isWire(wire) || !isKind(kind)) {
            return refusePlace(BAD);
        }
        if (!g.hasLabel(wire)) {
            return refusePlace(NULL);
        }
        if (kind != g.kind) {
            return refusePlace(CAST);
        }
        if (!isPlace(kind, i)) {
            return refusePlace(INDEX);
        }
        placeStatus = 0;
        return asKind(g.run.bitsOf(wire, bytesOfPlace(kind), i), kind);
    }

    public int open(int garbled, int i) {
        Garbled g = garbledAt(garbled);
        if (g == null || i < 0 || i >= g.circuit.outputCount) {
            return BAD;
        }
        int wire = g.circuit.outputs[i];
        return g.hasLabel(wire) ? g.openWire(wire, g.run) : NULL;
    }

    public int openAll(int garbled) {
        Garbled g = garbledAt(garbled);
        if (g == null) {
            return BAD;
        }
        return g.hasAllOutputs() ? g.openOutputs(g.run) : NULL;
    }

    public int agrees(int garbled, int from, int to) {
        Garbled g = garbledAt(garbled);
        if (g == null || from < 0 || from > to || to > RUN_NUMBERS || to - from > MOST_RUNS_AT_ONCE) {
            return BAD;
        }
        for (int inputs = from; inputs < to; inputs++) {
            g.putInputs(inputs, spareRun);
            garbler.follow(g, spareRun);
            if (g.openOutputs(spareRun) != g.circuit.outputTruths(inputs)) {
                return 0;
            }
        }
        return 1;
    }

    // ---- what is told

    public int count(int what) {
        switch (what) {
            case 0:
                return tape.size;
            case 1:
                return circuitCount;
            case 2:
                return garbledCount;
            case 3:
                return cipher.blocksMade;
            default:
                return BAD;
        }
    }

    public int status() {
        return placeStatus;
    }

    // ---- helpers of the calls

    private Circuit circuitAt(int number) {
        return number < 0 || number >= circuitCount ? null : circuits[number];
    }

    private Garbled garbledAt(int number) {
        return number < 0 || number >= garbledCount ? null : garbledOnes[number];
    }

    private long refusePlace(int why) {
        placeStatus = why;
        return 0L;
    }

    private static boolean isByteOfLabel(int i) {
        return i >= 0 && i < LABEL_SIZE;
    }

    private static boolean isTruth(int truth) {
        return truth == 0 || truth == 1;
    }

    private static boolean isKind(int kind) {
        return kind >= BYTES && kind <= LONGS;
    }

    /** A place is there if its first byte is one of the label's; i comes first, as a huge one times bytes wraps. */
    private static boolean isPlace(int kind, int i) {
        return isByteOfLabel(i) && isByteOfLabel(i * bytesOfPlace(kind));
    }

    private static int bytesOfPlace(int kind) {
        switch (kind) {
            case BYTES:
                return 1;
            case SHORTS:
            case CHARS:
                return 2;
            case INTS:
                return 4;
            default:
                return 8;
        }
    }

    /** The lowest bits as Java reads a place of that kind: of all kinds chars alone have no sign. */
    private static long asKind(long bits, int kind) {
        switch (kind) {
            case BYTES:
                return (byte) bits;
            case SHORTS:
                return (short) bits;
            case CHARS:
                return (char) bits;
            case INTS:
                return (int) bits;
            default:
                return bits;
        }
    }

    // ---- the parts

    private static final class Tape {
        private final byte[] bytes = new byte[TAPE_SIZE];
        private int size;

        boolean append(long v, int n) {
            if (n > TAPE_SIZE - size) {
                return false;
            }
            for (int left = n - 1; left >= 0; left--) {
                bytes[size] = (byte) (v >>> (8 * left));
                size++;
            }
            return true;
        }

        /** Empties the tape; its bytes stay readable until the next append, for the call that uses them up. */
        int useUp() {
            int had = size;
            size = 0;
            return had;
        }

        int byteAt(int place) {
            return place < 0 || place >= TAPE_SIZE ? 0 : bytes[place] & 255;
        }

        long eightBytes(int place) {
            long all = 0;
            for (int b = 0; b < 8; b++) {
                all = all << 8 | byteAt(place + b);
            }
            return all;
        }
    }

    /** A circuit as its text tells it; gate i makes wire inputCount + i. */
    private static final class Circuit {
        private final int[] signs = new int[MOST_GATES];
        private final int[] lefts = new int[MOST_GATES];
        private final int[] rights = new int[MOST_GATES];
        private final int[] tabledNumbers = new int[MOST_GATES];
        private final int[] outputs = new int[MOST_OUTPUTS];
        private int inputCount;
        private int gateCount;
        private int tabledCount;
        private int outputCount;

        void startWith(int inputs) {
            inputCount = inputs;
            gateCount = 0;
            tabledCount = 0;
            outputCount = 0;
        }

        void addGate(int sign, int left, int right) {
            if (gateCount >= MOST_GATES) {
                return;
            }
            signs[gateCount] = sign;
            lefts[gateCount] = left;
            rights[gateCount] = right;
            tabledNumbers[gateCount] = NONE;
            if (sign != JUST_ONE && sign != NOT) {
                tabledNumbers[gateCount] = tabledCount;
                tabledCount++;
            }
            gateCount++;
        }

        void addOutput(int wire) {
            if (outputCount >= MOST_OUTPUTS) {
                return;
            }
            outputs[outputCount] = wire;
            outputCount++;
        }

        int wireCount() {
            return inputCount + gateCount;
        }

        int coinsFor(int way) {
            int always = 1 + inputCount;
            return way == FOUR ? always + tabledCount : always;
        }

        /** Bits of the number beyond the inputs are not looked at. */
        int outputTruths(int inputs) {
            long truths = inputs & ((1L << inputCount) - 1);
            for (int i = 0; i < gateCount; i++) {
                int x = bitOf(truths, lefts[i]);
                int y = signs[i] == NOT ? 0 : bitOf(truths, rights[i]);
                truths |= (long) truthOf(signs[i], x, y) << (inputCount + i);
            }
            int all = 0;
            for (int o = 0; o < outputCount; o++) {
                all |= bitOf(truths, outputs[o]) << o;
            }
            return all;
        }

        private static int bitOf(long truths, int wire) {
            return (int) (truths >>> wire) & 1;
        }

        static boolean isSign(int c) {
            switch (c) {
                case AND:
                case OR:
                case AND_NOT:
                case NOT_BOTH:
                case NEITHER:
                case JUST_ONE:
                case NOT:
                    return true;
                default:
                    return false;
            }
        }

        /** Each tabled sign is (f xor x) and (g xor y), xor h: this one tells f, the next two g and h. */
        static int turnsLeft(int sign) {
            return sign == OR || sign == NEITHER ? 1 : 0;
        }

        static int turnsRight(int sign) {
            return sign == OR || sign == NEITHER || sign == AND_NOT ? 1 : 0;
        }

        static int turnsWhatComes(int sign) {
            return sign == OR || sign == NOT_BOTH ? 1 : 0;
        }

        static int truthOf(int sign, int x, int y) {
            switch (sign) {
                case AND:
                    return x & y;
                case OR:
                    return x | y;
                case AND_NOT:
                    return x & (1 - y);
                case NOT_BOTH:
                    return 1 - (x & y);
                case NEITHER:
                    return 1 - (x | y);
                case JUST_ONE:
                    return x ^ y;
                default:
                    return 1 - x;
            }
        }
    }

    /** Reads the tape as the text of a circuit; after the first fault no part reads on. */
    private static final class CircuitReader {
        private static final int NO_FAULT = -1;
        private static final int TEXT_END = -1;

        private final Tape tape;
        private int size;
        private int at;
        private int faultPlace;

        CircuitReader(Tape tape) {
            this.tape = tape;
        }

        /** Answers 0, or the fault. */
        int readInto(Circuit c, int textSize) {
            size = textSize;
            at = 0;
            faultPlace = NO_FAULT;
            c.startWith(readNumber(1, MOST_INPUTS));
            readMark(SEMICOLON);
            readGates(c);
            readOutputs(c);
            return isFine() ? 0 : FIRST_FAULT - faultPlace;
        }

        private void readGates(Circuit c) {
            for (int g = 0; g <= MOST_GATES && isFine(); g++) {
                skipBlanks();
                int sign = look();
                if (sign == ENDS_GATES) {
                    at++;
                    return;
                }
                if (g == MOST_GATES || !Circuit.isSign(sign)) {
                    fail(at);
                    return;
                }
                at++;
                readGate(c, sign);
                readMark(SEMICOLON);
            }
        }

        private void readGate(Circuit c, int sign) {
            int highest = c.wireCount() - 1;
            int left = readNumber(0, highest);
            int right = sign == NOT ? NONE : readNumber(0, highest);
            if (isFine()) {
                c.addGate(sign, left, right);
            }
        }

        private void readOutputs(Circuit c) {
            for (int o = 0; o <= MOST_OUTPUTS && isFine(); o++) {
                skipBlanks();
                if (o > 0 && look() == TEXT_END) {
                    return;
                }
                if (o == MOST_OUTPUTS) {
                    fail(at);
                    return;
                }
                int wire = readNumber(0, c.wireCount() - 1);
                if (isFine()) {
                    c.addOutput(wire);
                }
            }
        }

        private void readMark(int mark) {
            if (!isFine()) {
                return;
            }
            skipBlanks();
            if (look() != mark) {
                fail(at);
                return;
            }
            at++;
        }

        /** The value is judged by the digits that are read, ahead of a digit too many behind them. */
        private int readNumber(int lowest, int highest) {
            if (!isFine()) {
                return 0;
            }
            skipBlanks();
            int start = at;
            int value = 0;
            while (at < start + MOST_DIGITS && isDigit(look())) {
                value = 10 * value + look() - '0';
                at++;
            }
            if (at == start || value < lowest || value > highest) {
                fail(start);
                return 0;
            }
            if (isDigit(look())) {
                fail(at);
            }
            return value;
        }

        private void skipBlanks() {
            while (at < size && look() == BLANK) {
                at++;
            }
        }

        private int look() {
            return at < size ? tape.byteAt(at) : TEXT_END;
        }

        private void fail(int place) {
            faultPlace = place;
        }

        private boolean isFine() {
            return faultPlace == NO_FAULT;
        }

        private static boolean isDigit(int c) {
            return c >= '0' && c <= '9';
        }
    }

    /** A row of labels, each two longs, its first byte the highest of the first one. */
    private static final class Labels {
        private final long[] words;

        Labels(int size) {
            words = new long[2 * size];
        }

        void put(int to, long high, long low) {
            words[2 * to] = high;
            words[2 * to + 1] = low;
        }

        void putFromTape(int to, Tape tape, int place) {
            put(to, tape.eightBytes(place), tape.eightBytes(place + 8));
        }

        void copy(int to, Labels from, int i) {
            put(to, from.high(i), from.low(i));
        }

        void mix(int to, Labels from, int i) {
            words[2 * to] ^= from.high(i);
            words[2 * to + 1] ^= from.low(i);
        }

        void mixIf(int bit, int to, Labels from, int i) {
            if (bit == 1) {
                mix(to, from, i);
            }
        }

        void mixByte(int to, int b, int mask) {
            words[2 * to + b / 8] ^= (mask & 255L) << (56 - 8 * (b % 8));
        }

        /** The number goes into the last four bytes. */
        void mixNumber(int to, int number) {
            words[2 * to + 1] ^= number & 0xffffffffL;
        }

        void makeDouble(int i) {
            long high = high(i);
            long low = low(i);
            put(i, high << 1 | low >>> 63, low << 1 ^ (high < 0 ? 0x87 : 0));
        }

        long high(int i) {
            return words[2 * i];
        }

        long low(int i) {
            return words[2 * i + 1];
        }

        int colour(int i) {
            return (int) low(i) & 1;
        }

        int byteOf(int i, int b) {
            return (int) bitsOf(i, 1, b) & 255;
        }

        /** The lowest bits are the label's place of so many bytes; what stands above them is left over. */
        long bitsOf(int i, int bytes, int place) {
            int first = bytes * place;
            return words[2 * i + first / 8] >>> (64 - 8 * (bytes + first % 8));
        }
    }

    /** The block cipher of the published standard, 128 bits, and the hashes made of it. */
    private static final class Cipher {
        private static final int ROUNDS = 10;
        private static final int KEY_WORDS = 4 * (ROUNDS + 1);

        /**
         * For each byte, with s its S, the four bytes 2 s, s, s, 3 s of the field: what the first byte of
         * four brings to a column. The other bytes bring the same, turned, so that one look tells all.
         */
        private static final int[] COLUMN_OF = {
            0xc66363a5, 0xf87c7c84, 0xee777799, 0xf67b7b8d, 0xfff2f20d, 0xd66b6bbd, 0xde6f6fb1, 0x91c5c554,
            0x60303050, 0x02010103, 0xce6767a9, 0x562b2b7d, 0xe7fefe19, 0xb5d7d762, 0x4dababe6, 0xec76769a,
            0x8fcaca45, 0x1f82829d, 0x89c9c940, 0xfa7d7d87, 0xeffafa15, 0xb25959eb, 0x8e4747c9, 0xfbf0f00b,
            0x41adadec, 0xb3d4d467, 0x5fa2a2fd, 0x45afafea, 0x239c9cbf, 0x53a4a4f7, 0xe4727296, 0x9bc0c05b,
            0x75b7b7c2, 0xe1fdfd1c, 0x3d9393ae, 0x4c26266a, 0x6c36365a, 0x7e3f3f41, 0xf5f7f702, 0x83cccc4f,
            0x6834345c, 0x51a5a5f4, 0xd1e5e534, 0xf9f1f108, 0xe2717193, 0xabd8d873, 0x62313153, 0x2a15153f,
            0x0804040c, 0x95c7c752, 0x46232365, 0x9dc3c35e, 0x30181828, 0x379696a1, 0x0a05050f, 0x2f9a9ab5,
            0x0e070709, 0x24121236, 0x1b80809b, 0xdfe2e23d, 0xcdebeb26, 0x4e272769, 0x7fb2b2cd, 0xea75759f,
            0x1209091b, 0x1d83839e, 0x582c2c74, 0x341a1a2e, 0x361b1b2d, 0xdc6e6eb2, 0xb45a5aee, 0x5ba0a0fb,
            0xa45252f6, 0x763b3b4d, 0xb7d6d661, 0x7db3b3ce, 0x5229297b, 0xdde3e33e, 0x5e2f2f71, 0x13848497,
            0xa65353f5, 0xb9d1d168, 0x00000000, 0xc1eded2c, 0x40202060, 0xe3fcfc1f, 0x79b1b1c8, 0xb65b5bed,
            0xd46a6abe, 0x8dcbcb46, 0x67bebed9, 0x7239394b, 0x944a4ade, 0x984c4cd4, 0xb05858e8, 0x85cfcf4a,
            0xbbd0d06b, 0xc5efef2a, 0x4faaaae5, 0xedfbfb16, 0x864343c5, 0x9a4d4dd7, 0x66333355, 0x11858594,
            0x8a4545cf, 0xe9f9f910, 0x04020206, 0xfe7f7f81, 0xa05050f0, 0x783c3c44, 0x259f9fba, 0x4ba8a8e3,
            0xa25151f3, 0x5da3a3fe, 0x804040c0, 0x058f8f8a, 0x3f9292ad, 0x219d9dbc, 0x70383848, 0xf1f5f504,
            0x63bcbcdf, 0x77b6b6c1, 0xafdada75, 0x42212163, 0x20101030, 0xe5ffff1a, 0xfdf3f30e, 0xbfd2d26d,
            0x81cdcd4c, 0x180c0c14, 0x26131335, 0xc3ecec2f, 0xbe5f5fe1, 0x359797a2, 0x884444cc, 0x2e171739,
            0x93c4c457, 0x55a7a7f2, 0xfc7e7e82, 0x7a3d3d47, 0xc86464ac, 0xba5d5de7, 0x3219192b, 0xe6737395,
            0xc06060a0, 0x19818198, 0x9e4f4fd1, 0xa3dcdc7f, 0x44222266, 0x542a2a7e, 0x3b9090ab, 0x0b888883,
            0x8c4646ca, 0xc7eeee29, 0x6bb8b8d3, 0x2814143c, 0xa7dede79, 0xbc5e5ee2, 0x160b0b1d, 0xaddbdb76,
            0xdbe0e03b, 0x64323256, 0x743a3a4e, 0x140a0a1e, 0x924949db, 0x0c06060a, 0x4824246c, 0xb85c5ce4,
            0x9fc2c25d, 0xbdd3d36e, 0x43acacef, 0xc46262a6, 0x399191a8, 0x319595a4, 0xd3e4e437, 0xf279798b,
            0xd5e7e732, 0x8bc8c843, 0x6e373759, 0xda6d6db7, 0x018d8d8c, 0xb1d5d564, 0x9c4e4ed2, 0x49a9a9e0,
            0xd86c6cb4, 0xac5656fa, 0xf3f4f407, 0xcfeaea25, 0xca6565af, 0xf47a7a8e, 0x47aeaee9, 0x10080818,
            0x6fbabad5, 0xf0787888, 0x4a25256f, 0x5c2e2e72, 0x381c1c24, 0x57a6a6f1, 0x73b4b4c7, 0x97c6c651,
            0xcbe8e823, 0xa1dddd7c, 0xe874749c, 0x3e1f1f21, 0x964b4bdd, 0x61bdbddc, 0x0d8b8b86, 0x0f8a8a85,
            0xe0707090, 0x7c3e3e42, 0x71b5b5c4, 0xcc6666aa, 0x904848d8, 0x06030305, 0xf7f6f601, 0x1c0e0e12,
            0xc26161a3, 0x6a35355f, 0xae5757f9, 0x69b9b9d0, 0x17868691, 0x99c1c158, 0x3a1d1d27, 0x279e9eb9,
            0xd9e1e138, 0xebf8f813, 0x2b9898b3, 0x22111133, 0xd26969bb, 0xa9d9d970, 0x078e8e89, 0x339494a7,
            0x2d9b9bb6, 0x3c1e1e22, 0x15878792, 0xc9e9e920, 0x87cece49, 0xaa5555ff, 0x50282878, 0xa5dfdf7a,
            0x038c8c8f, 0x59a1a1f8, 0x09898980, 0x1a0d0d17, 0x65bfbfda, 0xd7e6e631, 0x844242c6, 0xd06868b8,
            0x824141c3, 0x299999b0, 0x5a2d2d77, 0x1e0f0f11, 0x7bb0b0cb, 0xa85454fc, 0x6dbbbbd6, 0x2c16163a
        };

        private final int[] keys = new int[KEY_WORDS];
        private long high;
        private long low;
        private int blocksMade;

        Cipher() {
            expandKeys();
        }

        void takeKey(long keyHigh, long keyLow) {
            keys[0] = (int) (keyHigh >>> 32);
            keys[1] = (int) keyHigh;
            keys[2] = (int) (keyLow >>> 32);
            keys[3] = (int) keyLow;
            expandKeys();
        }

        private void expandKeys() {
            int power = 1;
            for (int i = 4; i < KEY_WORDS; i++) {
                int word = keys[i - 1];
                if (i % 4 == 0) {
                    int turned = word << 8 | word >>> 24;
                    word = lastColumn(turned, turned, turned, turned) ^ power << 24;
                    power = power < 128 ? power << 1 : power << 1 ^ 0x11b;
                }
                keys[i] = keys[i - 4] ^ word;
            }
        }

        void makeBlock(Labels all, int from, int to) {
            encrypt(all.high(from), all.low(from));
            all.put(to, high, low);
        }

        void hashOne(Labels all, int a, int t, int to) {
            all.copy(to, all, a);
            all.makeDouble(to);
            hashMade(all, t, to);
        }

        /** Doubling goes through xor, so A xor the double of B is doubled once for both; to is neither a nor b. */
        void hashTwo(Labels all, int a, int b, int t, int to) {
            all.copy(to, all, b);
            all.makeDouble(to);
            all.mix(to, all, a);
            all.makeDouble(to);
            hashMade(all, t, to);
        }

        private void hashMade(Labels all, int t, int to) {
            all.mixNumber(to, t);
            encrypt(all.high(to), all.low(to));
            all.put(to, all.high(to) ^ high, all.low(to) ^ low);
        }

        /** The state is four columns, as words of four bytes; what comes of it is left in high and low. */
        private void encrypt(long fromHigh, long fromLow) {
            int a = (int) (fromHigh >>> 32) ^ keys[0];
            int b = (int) fromHigh ^ keys[1];
            int c = (int) (fromLow >>> 32) ^ keys[2];
            int d = (int) fromLow ^ keys[3];
            for (int k = 4; k < 4 * ROUNDS; k += 4) {
                int nextA = mixedColumn(a, b, c, d) ^ keys[k];
                int nextB = mixedColumn(b, c, d, a) ^ keys[k + 1];
                int nextC = mixedColumn(c, d, a, b) ^ keys[k + 2];
                int nextD = mixedColumn(d, a, b, c) ^ keys[k + 3];
                a = nextA;
                b = nextB;
                c = nextC;
                d = nextD;
            }
            int k = 4 * ROUNDS;
            high = joined(lastColumn(a, b, c, d) ^ keys[k], lastColumn(b, c, d, a) ^ keys[k + 1]);
            low = joined(lastColumn(c, d, a, b) ^ keys[k + 2], lastColumn(d, a, b, c) ^ keys[k + 3]);
            blocksMade++;
        }

        /** Takes byte r of the r-th word, which is how the rows are shifted. */
        private static int mixedColumn(int a, int b, int c, int d) {
            int first = COLUMN_OF[a >>> 24];
            int second = COLUMN_OF[b >>> 16 & 255];
            int third = COLUMN_OF[c >>> 8 & 255];
            int fourth = COLUMN_OF[d & 255];
            return first
                    ^ (second >>> 8 | second << 24)
                    ^ (third >>> 16 | third << 16)
                    ^ (fourth >>> 24 | fourth << 8);
        }

        /** The two bytes in the middle of what COLUMN_OF tells are S alone, as the tenth round and the keys want it. */
        private static int lastColumn(int a, int b, int c, int d) {
            return COLUMN_OF[a >>> 24] << 8 & 0xff000000
                    | COLUMN_OF[b >>> 16 & 255] & 0x00ff0000
                    | COLUMN_OF[c >>> 8 & 255] & 0x0000ff00
                    | COLUMN_OF[d & 255] >>> 8 & 0x000000ff;
        }

        private static long joined(int first, int second) {
            return (long) first << 32 | second & 0xffffffffL;
        }
    }

    /** A garbled circuit with its run. */
    private static final class Garbled {
        /** The slot behind the wires' labels for 0. */
        private static final int DELTA = MOST_WIRES;

        private final Circuit circuit;
        private final int circuitNumber;
        private final int way;
        private final int kind;
        private final Labels zeros = new Labels(MOST_WIRES + 1);
        private final Labels rows = new Labels(ROWS_OF_A_GATE * MOST_GATES);
        private final Labels run = new Labels(MOST_WIRES);
        private int givenInputs;
        private boolean workedOut;
        private int blocksToGarble;
        private int blocksToWorkOut;

        Garbled(Circuit circuit, int circuitNumber, int way, int kind) {
            this.circuit = circuit;
            this.circuitNumber = circuitNumber;
            this.way = way;
            this.kind = kind;
        }

        void takeCoins(Tape tape) {
            zeros.putFromTape(DELTA, tape, 0);
            zeros.put(DELTA, zeros.high(DELTA), zeros.low(DELTA) | 1);
            int place = LABEL_SIZE;
            for (int k = 0; k < circuit.inputCount; k++) {
                zeros.putFromTape(k, tape, place);
                place += LABEL_SIZE;
            }
            for (int i = 0; i < circuit.gateCount && way == FOUR; i++) {
                if (circuit.tabledNumbers[i] != NONE) {
                    zeros.putFromTape(circuit.inputCount + i, tape, place);
                    place += LABEL_SIZE;
                }
            }
        }

        boolean isWire(int wire) {
            return wire >= 0 && wire < circuit.wireCount();
        }

        boolean isInput(int k) {
            return k >= 0 && k < circuit.inputCount;
        }

        boolean isRow(int t, int r) {
            return t >= 0 && t < circuit.tabledCount && r >= 0 && r < ROWS_OF_A_GATE;
        }

        boolean isStored(int r) {
            switch (way) {
                case FOUR:
                    return true;
                case THREE:
                    return r != 0;
                default:
                    return r < 2;
            }
        }

        int storedRows() {
            return circuit.tabledCount * (4 - way);
        }

        static int rowPlace(int t, int r) {
            return ROWS_OF_A_GATE * t + r;
        }

        void putLabelFor(int truth, int wire, Labels to, int at) {
            to.copy(at, zeros, wire);
            to.mixIf(truth, at, zeros, DELTA);
        }

        void putInputs(int inputs, Labels to) {
            for (int k = 0; k < circuit.inputCount; k++) {
                putLabelFor(inputs >>> k & 1, k, to, k);
            }
        }

        void noteGiven(int k) {
            givenInputs |= 1 << k;
            workedOut = false;
        }

        void noteMissing(int k) {
            givenInputs &= ~(1 << k);
            workedOut = false;
        }

        boolean hasAllInputs() {
            return givenInputs == (1 << circuit.inputCount) - 1;
        }

        boolean hasLabel(int wire) {
            return isInput(wire) ? (givenInputs >>> wire & 1) == 1 : workedOut;
        }

        boolean hasAllOutputs() {
            for (int o = 0; o < circuit.outputCount; o++) {
                if (!hasLabel(circuit.outputs[o])) {
                    return false;
                }
            }
            return true;
        }

        int labelledWires() {
            int all = 0;
            for (int wire = 0; wire < circuit.wireCount(); wire++) {
                all += hasLabel(wire) ? 1 : 0;
            }
            return all;
        }

        int openWire(int wire, Labels labels) {
            long high = labels.high(wire) ^ zeros.high(wire);
            long low = labels.low(wire) ^ zeros.low(wire);
            if (high == 0 && low == 0) {
                return 0;
            }
            return high == zeros.high(DELTA) && low == zeros.low(DELTA) ? 1 : FORGED;
        }

        int openOutputs(Labels labels) {
            int all = 0;
            for (int o = 0; o < circuit.outputCount; o++) {
                int truth = openWire(circuit.outputs[o], labels);
                if (truth == FORGED) {
                    return FIRST_FORGED - o;
                }
                all |= truth << o;
            }
            return all;
        }
    }

    /** Goes through the gates of garbled ones: makes their tables, and follows them with a run's labels. */
    private static final class Garbler {
        private static final int A = 0;
        private static final int B = 1;
        private static final int OTHER_A = 2;
        private static final int OTHER_B = 3;
        private static final int HASH_A = 4;
        private static final int HASH_B = 5;
        private static final int HASH_OTHER_A = 6;
        private static final int HASH_OTHER_B = 7;
        private static final int HASH_BOTH = 8;

        private final Cipher cipher;
        private final Labels work = new Labels(HASH_BOTH + 1);

        Garbler(Cipher cipher) {
            this.cipher = cipher;
        }

        void makeTables(Garbled g) {
            Circuit c = g.circuit;
            for (int i = 0; i < c.gateCount; i++) {
                int wire = c.inputCount + i;
                if (c.signs[i] == NOT) {
                    g.putLabelFor(1, c.lefts[i], g.zeros, wire);
                } else if (c.signs[i] == JUST_ONE) {
                    g.zeros.copy(wire, g.zeros, c.lefts[i]);
                    g.zeros.mix(wire, g.zeros, c.rights[i]);
                } else if (g.way == HALVES) {
                    makeHalves(g, i);
                } else {
                    makeRows(g, i);
                }
            }
        }

        /** The run has a label of each input. */
        void follow(Garbled g, Labels run) {
            Circuit c = g.circuit;
            for (int i = 0; i < c.gateCount; i++) {
                int wire = c.inputCount + i;
                if (c.signs[i] == NOT) {
                    run.copy(wire, run, c.lefts[i]);
                } else if (c.signs[i] == JUST_ONE) {
                    run.copy(wire, run, c.lefts[i]);
                    run.mix(wire, run, c.rights[i]);
                } else if (g.way == HALVES) {
                    followHalves(g, run, i);
                } else {
                    followRows(g, run, i);
                }
            }
        }

        private void makeRows(Garbled g, int i) {
            Circuit c = g.circuit;
            int wire = c.inputCount + i;
            int t = c.tabledNumbers[i];
            for (int r = 0; r < ROWS_OF_A_GATE; r++) {
                int x = r >>> 1 ^ g.zeros.colour(c.lefts[i]);
                int y = r & 1 ^ g.zeros.colour(c.rights[i]);
                int truth = Circuit.truthOf(c.signs[i], x, y);
                g.putLabelFor(x, c.lefts[i], work, A);
                g.putLabelFor(y, c.rights[i], work, B);
                cipher.hashTwo(work, A, B, t, HASH_BOTH);
                if (g.way == THREE && r == 0) {
                    g.zeros.copy(wire, work, HASH_BOTH);
                    g.zeros.mixIf(truth, wire, g.zeros, Garbled.DELTA);
                }
                int place = Garbled.rowPlace(t, r);
                g.putLabelFor(truth, wire, g.rows, place);
                g.rows.mix(place, work, HASH_BOTH);
            }
        }

        /** Row 0 of THREE is kept as zeros, so the colours pick a row as with FOUR. */
        private void followRows(Garbled g, Labels run, int i) {
            Circuit c = g.circuit;
            int wire = c.inputCount + i;
            int t = c.tabledNumbers[i];
            work.copy(A, run, c.lefts[i]);
            work.copy(B, run, c.rights[i]);
            cipher.hashTwo(work, A, B, t, HASH_BOTH);
            run.copy(wire, work, HASH_BOTH);
            run.mix(wire, g.rows, Garbled.rowPlace(t, 2 * work.colour(A) + work.colour(B)));
        }

        private void makeHalves(Garbled g, int i) {
            Circuit c = g.circuit;
            int sign = c.signs[i];
            int x = Circuit.turnsLeft(sign);
            int y = Circuit.turnsRight(sign);
            int t = c.tabledNumbers[i];
            int wire = c.inputCount + i;
            g.putLabelFor(x, c.lefts[i], work, A);
            g.putLabelFor(1 - x, c.lefts[i], work, OTHER_A);
            g.putLabelFor(y, c.rights[i], work, B);
            g.putLabelFor(1 - y, c.rights[i], work, OTHER_B);
            cipher.hashOne(work, A, 2 * t, HASH_A);
            cipher.hashOne(work, OTHER_A, 2 * t, HASH_OTHER_A);
            cipher.hashOne(work, B, 2 * t + 1, HASH_B);
            cipher.hashOne(work, OTHER_B, 2 * t + 1, HASH_OTHER_B);
            int first = Garbled.rowPlace(t, 0);
            int second = Garbled.rowPlace(t, 1);
            g.rows.copy(first, work, HASH_A);
            g.rows.mix(first, work, HASH_OTHER_A);
            g.rows.mixIf(work.colour(B), first, g.zeros, Garbled.DELTA);
            g.rows.copy(second, work, HASH_B);
            g.rows.mix(second, work, HASH_OTHER_B);
            g.rows.mix(second, work, A);
            joinHalves(g, t, g.zeros, wire);
            g.zeros.mixIf(Circuit.turnsWhatComes(sign), wire, g.zeros, Garbled.DELTA);
        }

        private void followHalves(Garbled g, Labels run, int i) {
            Circuit c = g.circuit;
            int t = c.tabledNumbers[i];
            work.copy(A, run, c.lefts[i]);
            work.copy(B, run, c.rights[i]);
            cipher.hashOne(work, A, 2 * t, HASH_A);
            cipher.hashOne(work, B, 2 * t + 1, HASH_B);
            joinHalves(g, t, run, c.inputCount + i);
        }

        /** What A and B at hand come to by their hashes at hand and the two rows of the gate. */
        private void joinHalves(Garbled g, int t, Labels to, int at) {
            int p = work.colour(A);
            int q = work.colour(B);
            to.copy(at, work, HASH_A);
            to.mixIf(p, at, g.rows, Garbled.rowPlace(t, 0));
            to.mix(at, work, HASH_B);
            to.mixIf(q, at, g.rows, Garbled.rowPlace(t, 1));
            to.mixIf(q, at, work, A);
        }
    }
}
