/** Promises 17 to 25: runs, their labels, working them out, opening them, and whether they agree. */
public final class RunsTest {
    private static final Due due = new Due();
    private static final String MIXED = "3;&0 1;^3 2;!4;|5 0;/6 3;%1 7;#8 8;^9 5;>10 9 8 7 0";

    public static void main(String[] args) {
        promise17Choose();
        promise17WhatWasWorkedOutIsGone();
        promise18Encode();
        promise19Lay();
        promise19LayAndTheTape();
        promise20WorkOut();
        promise20WorkOutByHand();
        promise20SpoiltRows();
        promise21Active();
        promise22Place();
        promise22PlaceRefused();
        promise23Open();
        promise24OpenAll();
        promise25Agrees();
        promise25AgreesLeavesTheRun();
        promise25AgreesRefused();
        due.end();
    }

    private static void promise17Choose() {
        GarbledWires x = Bench.garbled("2;&0 1;>2", 0, 0, 17);
        for (int truth = 0; truth < 2; truth++) {
            due.is("17: choose(0, 1, " + truth + ")", x.choose(0, 1, truth), 1);
            due.sameBytes("17: its label", Bench.activeOf(x, 0, 1), Bench.labelOf(x, 0, 1, truth));
        }
        due.is("17: the other input has none", x.active(0, 0, 0), Bench.NULL);
        int[][] wrong = {{1, 0, 0}, {-1, 0, 0}, {0, 2, 0}, {0, -1, 0}, {0, 0, 2}, {0, 0, -1},
            {0, Integer.MAX_VALUE, 0}, {0, 0, Integer.MIN_VALUE}};
        for (int[] w : wrong) {
            due.is("17: choose(" + w[0] + ", " + w[1] + ", " + w[2] + ")", x.choose(w[0], w[1], w[2]), Bench.BAD);
        }
        due.is("17: refused ones change nothing", x.told(0, 5), 1);
    }

    private static void promise17WhatWasWorkedOutIsGone() {
        GarbledWires x = Bench.garbled("2;&0 1;!2;>3 0", 1, 0, 17);
        for (int how = 0; how < 4; how++) {
            x.encode(0, 3);
            x.workOut(0);
            due.is("17: refused, it stays", x.choose(0, 2, 0), Bench.BAD);
            x.lay(0, 0, 0);
            x.encode(1, 0);
            due.is("17: worked out", x.told(0, 5), 4);
            switch (how) {
                case 0 -> x.choose(0, 1, 1);
                case 1 -> x.encode(0, 3);
                case 2 -> x.lay(0, 1, -1);
                default -> {
                    Bench.feedCoins(x, 1, 3);
                    x.lay(0, 1, 0);
                }
            }
            due.is("17: what was worked out is gone", x.told(0, 5), how == 2 ? 1 : 2);
            due.is("17: no label of wire 2", x.active(0, 2, 0), Bench.NULL);
            due.is("17: output 0 has none", x.open(0, 0), Bench.NULL);
            due.is("17: output 1, an input, has one", x.open(0, 1), 1);
            due.is("17: not all", x.openAll(0), Bench.NULL);
        }
    }

    private static void promise18Encode() {
        GarbledWires x = Bench.garbled("3;&0 1;>3", 2, 0, 18);
        due.is("18: encode(0, 5)", x.encode(0, 5), 3);
        for (int k = 0; k < 3; k++) {
            due.sameBytes("18: input " + k, Bench.activeOf(x, 0, k), Bench.labelOf(x, 0, k, 5 >> k & 1));
        }
        due.is("18: bits beyond the inputs are not looked at", x.encode(0, -6), 3);
        for (int k = 0; k < 3; k++) {
            due.sameBytes("18: input " + k, Bench.activeOf(x, 0, k), Bench.labelOf(x, 0, k, 2 >> k & 1));
        }
        due.is("18: no such one", x.encode(1, 0), Bench.BAD);
        due.is("18: no such one", x.encode(-1, 0), Bench.BAD);
        GarbledWires y = Bench.garbled("16;>0", 2, 0, 18);
        due.is("18: sixteen", y.encode(0, 0x8001), 16);
        due.sameBytes("18: input 15", Bench.activeOf(y, 0, 15), Bench.labelOf(y, 0, 15, 1));
        due.sameBytes("18: input 14", Bench.activeOf(y, 0, 14), Bench.labelOf(y, 0, 14, 0));
    }

    private static void promise19Lay() {
        GarbledWires x = Bench.garbled("2;&0 1;>2 0", 0, 0, 19);
        byte[] label = Bench.coins(1, 190);
        Bench.feed(x, label);
        x.feed(1, 5);
        due.is("19: lay(0, 1, 0)", x.lay(0, 1, 0), 1);
        due.is("19: the tape is used up", x.count(0), 0);
        due.sameBytes("19: the label", Bench.activeOf(x, 0, 1), label);
        due.is("19: one label", x.told(0, 5), 1);
        due.is("19: none of an input", x.lay(0, 1, -1), 1);
        due.is("19: it has none", x.active(0, 1, 0), Bench.NULL);
        due.is("19: none once more", x.lay(0, 1, -1), 1);
        due.is("19: no labels", x.told(0, 5), 0);
        Bench.feed(x, Bench.labelOf(x, 0, 0, 1));
        x.lay(0, 0, 0);
        due.is("19: a label that is known", x.open(0, 1), 1);
        Bench.feed(x, label);
        x.lay(0, 0, 0);
        due.is("19: a label that is not", x.open(0, 1), 2);
    }

    private static void promise19LayAndTheTape() {
        GarbledWires x = Bench.garbled("2;&0 1;>2", 0, 0, 19);
        x.encode(0, 3);
        x.workOut(0);
        Bench.feed(x, new byte[15]);
        due.is("19: a byte too few", x.lay(0, 0, 0), Bench.SHORT);
        due.is("19: SHORT uses the tape up", x.count(0), 0);
        due.is("19: SHORT changes nothing else", x.told(0, 5), 3);
        int[][] wrong = {{1, 0, 0}, {-1, 0, 0}, {0, 2, 0}, {0, -1, 0}, {0, Integer.MAX_VALUE, 0},
            {0, 0, 1}, {0, 0, -2}, {0, 0, Integer.MIN_VALUE}};
        for (int[] w : wrong) {
            String call = "19: lay(" + w[0] + ", " + w[1] + ", " + w[2] + ")";
            Bench.feedCoins(x, 1, 1);
            due.is(call, x.lay(w[0], w[1], w[2]), Bench.BAD);
            due.is(call + " uses the tape up", x.count(0), 0);
            due.is(call + ", ahead of SHORT", x.lay(w[0], w[1], w[2]), Bench.BAD);
        }
        x.feed(1, 7);
        due.is("19: lay(1, 0, -1)", x.lay(1, 0, -1), Bench.BAD);
        due.is("19: lay(0, 2, -1)", x.lay(0, 2, -1), Bench.BAD);
        due.is("19: refused ones change nothing", x.told(0, 5), 3);
        due.is("19: lay(0, 0, -1)", x.lay(0, 0, -1), 1);
        due.is("19: with -1 the tape is not read", x.count(0), 7);
    }

    private static void promise20WorkOut() {
        for (int way = 0; way < 3; way++) {
            for (long seed = 0; seed < 10; seed++) {
                GarbledWires x = Bench.garbled(MIXED, way, 0, seed);
                for (int inputs = 0; inputs < 8; inputs++) {
                    x.encode(0, inputs);
                    due.is("20: workOut(0)", x.workOut(0), 8);
                    due.is("20: way " + way + " of " + inputs, x.openAll(0), x.plain(0, inputs));
                }
            }
        }
        GarbledWires x = Bench.garbled(MIXED, 0, 0, 20);
        int before = x.count(3);
        due.is("20: no labels", x.workOut(0), Bench.NULL);
        x.choose(0, 0, 0);
        x.choose(0, 1, 0);
        due.is("20: one input has none", x.workOut(0), Bench.NULL);
        due.is("20: NULL makes no blocks", x.count(3), before);
        due.is("20: nothing is worked out", x.told(0, 5), 2);
        x.choose(0, 2, 0);
        due.is("20: all have one", x.workOut(0), 8);
        due.is("20: once more", x.workOut(0), 8);
        due.is("20: blocks of both", x.count(3), before + 10);
        due.is("20: no such one", x.workOut(1), Bench.BAD);
        due.is("20: no such one", x.workOut(-1), Bench.BAD);
        due.is("20: no gates", workOutOfNoGates(), 0);
    }

    private static int workOutOfNoGates() {
        GarbledWires x = Bench.garbled("2;>1", 2, 0, 20);
        due.is("20: an input that no gate takes, too", x.workOut(0), Bench.NULL);
        x.encode(0, 2);
        return x.workOut(0);
    }

    /** Labels that are none of the garbled ones go through the rows as any do. */
    private static void promise20WorkOutByHand() {
        for (int way = 0; way < 3; way++) {
            for (int colours = 0; colours < 4; colours++) {
                GarbledWires x = Bench.garbled("2;&0 1;^0 2;!3;|4 0;>5", way, 0, 200 + way);
                byte[] a = Bench.coins(1, 300 + colours);
                byte[] b = Bench.coins(1, 400 + colours);
                a[15] = (byte) (a[15] & 254 | colours >> 1);
                b[15] = (byte) (b[15] & 254 | colours & 1);
                Bench.feed(x, a);
                x.lay(0, 0, 0);
                Bench.feed(x, b);
                x.lay(0, 1, 0);
                x.workOut(0);
                byte[] and = worked(x, way, a, b, 0);
                byte[] one = Bench.xor(a, and);
                due.sameBytes("20: & of way " + way, Bench.activeOf(x, 0, 2), and);
                due.sameBytes("20: ^", Bench.activeOf(x, 0, 3), one);
                due.sameBytes("20: !", Bench.activeOf(x, 0, 4), one);
                due.sameBytes("20: | of way " + way, Bench.activeOf(x, 0, 5), worked(x, way, one, a, 1));
                due.is("20: it is forged", x.open(0, 0), 2);
            }
        }
    }

    private static byte[] worked(GarbledWires x, int way, byte[] a, byte[] b, int t) {
        byte[] key = new byte[16];
        if (way < 2) {
            int r = 2 * Bench.colour(a) + Bench.colour(b);
            byte[] row = way == 1 && r == 0 ? new byte[16] : Bench.rowOf(x, 0, t, r);
            return Bench.xor(Bench.hash(key, a, b, t), row);
        }
        byte[] made = Bench.xor(Bench.hash(key, a, null, 2 * t), Bench.hash(key, b, null, 2 * t + 1));
        if (Bench.colour(a) == 1) {
            made = Bench.xor(made, Bench.rowOf(x, 0, t, 0));
        }
        if (Bench.colour(b) == 1) {
            made = Bench.xor(Bench.xor(made, Bench.rowOf(x, 0, t, 1)), a);
        }
        return made;
    }

    private static void promise20SpoiltRows() {
        GarbledWires x = Bench.garbled("2;&0 1;>2", 0, 0, 21);
        int[] rowOfInputs = new int[4];
        for (int inputs = 0; inputs < 4; inputs++) {
            int p = x.label(0, 0, inputs & 1, 15) & 1;
            int q = x.label(0, 1, inputs >> 1, 15) & 1;
            rowOfInputs[inputs] = 2 * p + q;
        }
        x.spoil(0, 0, rowOfInputs[2], 0, 1);
        for (int inputs = 0; inputs < 4; inputs++) {
            x.encode(0, inputs);
            x.workOut(0);
            due.is("20: only who takes the spoilt row finds it", x.open(0, 0), inputs == 2 ? 2 : x.plain(0, inputs));
        }
        x.encode(0, 3);
        x.workOut(0);
        x.spoil(0, 0, rowOfInputs[3], 5, 8);
        due.is("20: what is worked out stays when a row is spoilt", x.open(0, 0), 1);
        x.workOut(0);
        due.is("20: worked out anew it is forged", x.open(0, 0), 2);
        x.spoil(0, 0, rowOfInputs[3], 5, 8);
        x.workOut(0);
        due.is("20: spoilt back", x.open(0, 0), 1);
    }

    private static void promise21Active() {
        GarbledWires x = Bench.garbled("2;&0 1;>2", 2, 0, 21);
        due.is("21: none yet", x.active(0, 0, 0), Bench.NULL);
        x.encode(0, 3);
        due.is("21: none of what is not worked out", x.active(0, 2, 0), Bench.NULL);
        x.workOut(0);
        for (int i = 0; i < 16; i++) {
            due.is("21: active(0, 0, " + i + ")", x.active(0, 0, i), x.label(0, 0, 1, i));
            due.is("21: active(0, 2, " + i + ")", x.active(0, 2, i), x.label(0, 2, 1, i));
        }
        int[][] wrong = {{1, 0, 0}, {-1, 0, 0}, {0, 3, 0}, {0, -1, 0}, {0, 0, 16}, {0, 0, -1}, {0, 56, 0},
            {0, Integer.MAX_VALUE, 0}, {0, 0, Integer.MIN_VALUE}};
        for (int[] w : wrong) {
            due.is("21: active(" + w[0] + ", " + w[1] + ", " + w[2] + ")", x.active(w[0], w[1], w[2]), Bench.BAD);
        }
        x.choose(0, 0, 0);
        due.is("21: BAD is told ahead of NULL", x.active(0, 2, 16), Bench.BAD);
    }

    private static void promise22Place() {
        byte[] label = Bench.hex("80ff7f0180007fffc0000000fffffffe");
        long[][] want = {
            {-128, -1, 127, 1, -128, 0, 127, -1, -64, 0, 0, 0, -1, -1, -1, -2},
            {-32513, 32513, -32768, 32767, -16384, 0, -1, -2},
            {33023, 32513, 32768, 32767, 49152, 0, 65535, 65534},
            {-2130739455, -2147450881, -1073741824, -2},
            {0x80ff7f0180007fffL, 0xc0000000fffffffeL},
        };
        for (int kind = 0; kind < 5; kind++) {
            GarbledWires x = Bench.garbled("2;^0 1;>2", 0, kind, 22);
            Bench.feed(x, label);
            x.lay(0, 0, 0);
            Bench.feed(x, new byte[16]);
            x.lay(0, 1, 0);
            x.workOut(0);
            x.place(0, 0, kind, -1);
            for (int i = 0; i < want[kind].length; i++) {
                due.is("22: place(0, 0, " + kind + ", " + i + ")", x.place(0, 0, kind, i), want[kind][i]);
                due.is("22: status()", x.status(), 0);
                due.is("22: place(0, 2, " + kind + ", " + i + ")", x.place(0, 2, kind, i), want[kind][i]);
            }
            placeEdges(x, kind, want[kind].length);
        }
    }

    private static void placeEdges(GarbledWires x, int kind, int length) {
        int[] outside = {-1, length, Integer.MIN_VALUE, Integer.MAX_VALUE, 1 << 29, 1 << 28, 1 << 30};
        for (int i : outside) {
            refusedPlace(x, 0, 0, kind, i, Bench.INDEX);
        }
        for (int other = 0; other < 5; other++) {
            if (other != kind) {
                refusedPlace(x, 0, 0, other, 0, Bench.CAST);
                refusedPlace(x, 0, 0, other, 99, Bench.CAST);
            }
        }
    }

    private static void refusedPlace(GarbledWires x, int garbled, int wire, int kind, int i, int why) {
        String call = "22: place(" + garbled + ", " + wire + ", " + kind + ", " + i + ")";
        due.is(call, x.place(garbled, wire, kind, i), 0);
        due.is(call + ", status()", x.status(), why);
    }

    private static void promise22PlaceRefused() {
        GarbledWires x = Bench.garbled("2;&0 1;>2", 0, 4, 22);
        refusedPlace(x, 0, 0, 4, 0, Bench.NULL);
        refusedPlace(x, 0, 0, 3, 0, Bench.NULL);
        refusedPlace(x, 0, 0, 4, 2, Bench.NULL);
        x.encode(0, 0);
        refusedPlace(x, 0, 2, 4, 0, Bench.NULL);
        refusedPlace(x, 1, 0, 4, 0, Bench.BAD);
        refusedPlace(x, -1, 0, 4, 0, Bench.BAD);
        refusedPlace(x, 0, 3, 4, 0, Bench.BAD);
        refusedPlace(x, 0, -1, 4, 0, Bench.BAD);
        refusedPlace(x, 0, 0, 5, 0, Bench.BAD);
        refusedPlace(x, 0, 0, -1, 0, Bench.BAD);
        refusedPlace(x, 0, 2, 5, 99, Bench.BAD);
        refusedPlace(x, 0, Integer.MAX_VALUE, 4, 0, Bench.BAD);
        refusedPlace(x, 0, 0, Integer.MIN_VALUE, 0, Bench.BAD);
    }

    private static void promise23Open() {
        GarbledWires x = Bench.garbled("2;&0 1;!2;>2 3 0", 1, 0, 23);
        due.is("23: no label", x.open(0, 0), Bench.NULL);
        x.choose(0, 0, 1);
        due.is("23: an input is opened without workOut", x.open(0, 2), 1);
        due.is("23: what a gate makes is not", x.open(0, 1), Bench.NULL);
        for (int inputs = 0; inputs < 4; inputs++) {
            x.encode(0, inputs);
            x.workOut(0);
            int and = inputs == 3 ? 1 : 0;
            due.is("23: open(0, 0)", x.open(0, 0), and);
            due.is("23: open(0, 1)", x.open(0, 1), 1 - and);
            due.is("23: open(0, 2)", x.open(0, 2), inputs & 1);
        }
        int[][] wrong = {{1, 0}, {-1, 0}, {0, 3}, {0, -1}, {0, 8}, {0, Integer.MAX_VALUE}, {0, Integer.MIN_VALUE}};
        for (int[] w : wrong) {
            due.is("23: open(" + w[0] + ", " + w[1] + ")", x.open(w[0], w[1]), Bench.BAD);
        }
        byte[][] labels = {Bench.labelOf(x, 0, 0, 0), Bench.labelOf(x, 0, 0, 1)};
        for (int i = 0; i < 16; i++) {
            for (int truth = 0; truth < 2; truth++) {
                byte[] label = labels[truth].clone();
                label[i] ^= 64;
                Bench.feed(x, label);
                x.lay(0, 0, 0);
                due.is("23: forged in byte " + i, x.open(0, 2), 2);
            }
        }
    }

    private static void promise24OpenAll() {
        GarbledWires x = Bench.garbled("4;>0 1 2 3 3 2 1 0", 0, 0, 24);
        due.is("24: no labels", x.openAll(0), Bench.NULL);
        x.encode(0, 0b1010);
        due.is("24: all outputs", x.openAll(0), 0b01011010);
        x.encode(0, 15);
        due.is("24: all true", x.openAll(0), 255);
        Bench.feedCoins(x, 1, 24);
        x.lay(0, 2, 0);
        due.is("24: the first forged one", x.openAll(0), -102);
        x.lay(0, 0, -1);
        due.is("24: NULL is told ahead of forged ones", x.openAll(0), Bench.NULL);
        Bench.feedCoins(x, 1, 25);
        x.lay(0, 0, 0);
        due.is("24: the first of two", x.openAll(0), -100);
        x.encode(0, 0);
        x.lay(0, 3, -1);
        due.is("24: one has none", x.openAll(0), Bench.NULL);
        due.is("24: no such one", x.openAll(1), Bench.BAD);
        due.is("24: no such one", x.openAll(-1), Bench.BAD);
        GarbledWires y = Bench.garbled("2;&0 1;>0 0 0 0 0 0 0 1", 0, 0, 24);
        y.encode(0, 0);
        Bench.feedCoins(y, 1, 26);
        y.lay(0, 1, 0);
        due.is("24: the eighth", y.openAll(0), -107);
    }

    private static void promise25Agrees() {
        for (int way = 0; way < 3; way++) {
            GarbledWires x = Bench.garbled(MIXED, way, 0, 25);
            int blocks = way == 2 ? 10 : 5;
            int before = x.count(3);
            due.is("25: agrees(0, 0, 8)", x.agrees(0, 0, 8), 1);
            due.is("25: blocks of eight runs", x.count(3), before + 8 * blocks);
            due.is("25: of no numbers", x.agrees(0, 5, 5), 1);
            due.is("25: of no numbers", x.agrees(0, 65536, 65536), 1);
            due.is("25: no blocks of these", x.count(3), before + 8 * blocks);
            due.is("25: the last numbers", x.agrees(0, 65528, 65536), 1);
            due.is("25: from the second on", x.agrees(0, 1, 9), 1);
        }
        GarbledWires x = Bench.garbled("2;&0 1;>2", 0, 0, 21);
        int p = x.label(0, 0, 0, 15) & 1;
        int q = x.label(0, 1, 1, 15) & 1;
        x.spoil(0, 0, 2 * p + q, 0, 1);
        int before = x.count(3);
        due.is("25: number 2 is forged", x.agrees(0, 0, 4), 0);
        due.is("25: up to the first that does not agree", x.count(3), before + 3);
        due.is("25: ahead of it", x.agrees(0, 0, 2), 1);
        due.is("25: behind it", x.agrees(0, 3, 6), 1);
        due.is("25: itself", x.agrees(0, 2, 3), 0);
    }

    private static void promise25AgreesLeavesTheRun() {
        GarbledWires x = Bench.garbled(MIXED, 2, 0, 26);
        x.agrees(0, 0, 3);
        due.is("25: no labels still", x.told(0, 5), 0);
        due.is("25: no workOut still", x.told(0, 6), 0);
        due.is("25: workOut is refused still", x.workOut(0), Bench.NULL);
        x.encode(0, 6);
        x.agrees(0, 0, 3);
        due.is("25: labels of the inputs alone", x.told(0, 5), 3);
        x.workOut(0);
        byte[] before = Bench.activeOf(x, 0, 10);
        x.agrees(0, 0, 8);
        due.is("25: it is worked out still", x.told(0, 5), 11);
        due.is("25: blocks of the latest workOut", x.told(0, 6), 10);
        due.is("25: blocks to garble it", x.told(0, 4), 20);
        due.sameBytes("25: the run's label", Bench.activeOf(x, 0, 10), before);
        due.is("25: the run's outputs", x.openAll(0), x.plain(0, 6));
    }

    private static void promise25AgreesRefused() {
        GarbledWires x = Bench.garbled("1;>0", 0, 0, 25);
        int[][] wrong = {{1, 0, 1}, {-1, 0, 1}, {0, -1, 1}, {0, 2, 1}, {0, 0, 9}, {0, 65530, 65537}, {0, 65537, 65537},
            {0, Integer.MIN_VALUE, Integer.MAX_VALUE}, {0, Integer.MAX_VALUE, Integer.MIN_VALUE}, {0, -8, 0},
            {0, Integer.MAX_VALUE, Integer.MAX_VALUE}, {0, 0, -1}};
        for (int[] w : wrong) {
            due.is("25: agrees(" + w[0] + ", " + w[1] + ", " + w[2] + ")", x.agrees(w[0], w[1], w[2]), Bench.BAD);
        }
    }
}
