/** Boundary cases of promises 17 to 25: the labels of runs, working them out, opening them, and whether they agree. */
public final class EdgesOfRunsTest {
    private static final String USED_UP = "what reads it (whether refused or not) uses it up";
    private static final String NOTHING_CHANGES = "Refused, and nothing changes but THE TAPE";
    private static final String NO_MORE = "What was worked out of the RUN is there no more (likewise below).";
    private static final String AND = "2;&0 1;>2";
    private static final byte[] ZEROS = new byte[16];

    public static void main(String[] args) {
        Sentences.run(EdgesOfRunsTest.class);
    }

    /** One is garbled and worked out with both inputs true; four wires have labels, and place() was refused. */
    private static GarbledWires busy(int way) {
        GarbledWires x = Bench.garbled("2;&0 1;!2;>3 0", way, 3, 77);
        x.encode(0, 3);
        x.workOut(0);
        x.place(0, 0, 0, 0);
        return x;
    }

    private static void layLabel(GarbledWires x, int k, byte[] label) {
        Bench.feed(x, label);
        x.lay(0, k, 0);
    }

    private static void workedOutIsNoMore(Due due, String call, GarbledWires x, int labels) {
        due.is("labels behind " + call, x.told(0, 5), labels);
        due.is("active(0, 2, 0) behind " + call, x.active(0, 2, 0), Bench.NULL);
        due.is("active(0, 3, 0) behind " + call, x.active(0, 3, 0), Bench.NULL);
        due.is("open(0, 0) behind " + call, x.open(0, 0), Bench.NULL);
        due.is("openAll(0) behind " + call, x.openAll(0), Bench.NULL);
        due.is("place(0, 3, 3, 0) behind " + call, x.place(0, 3, 3, 0), 0);
        due.is("status() behind " + call, x.status(), Bench.NULL);
    }

    // ---- promise 17

    @Sentence(promise = 17, says = "INPUT k of a RUN gets its LABEL for a truth: 1.")
    static void chooseTheFirstAndTheLastInput(Due due) {
        GarbledWires x = Bench.garbled("16;>0", 1, 0, 17);
        for (int k : new int[] {0, 15}) {
            for (int truth = 0; truth < 2; truth++) {
                due.is("choose(0, " + k + ", " + truth + ")", x.choose(0, k, truth), 1);
                due.sameBytes("its label", Bench.activeOf(x, 0, k), Bench.labelOf(x, 0, k, truth));
            }
        }
        due.is("two have labels", x.told(0, 5), 2);
        due.is("input 1 has none", x.active(0, 1, 0), Bench.NULL);
        due.is("input 14 has none", x.active(0, 14, 0), Bench.NULL);
    }

    @Sentence(promise = 17, says = NO_MORE)
    static void chooseEndsWhatWasWorkedOut(Due due) {
        for (int k = 0; k < 2; k++) {
            GarbledWires x = busy(0);
            due.is("labels", x.told(0, 5), 4);
            x.choose(0, k, 1);
            workedOutIsNoMore(due, "choose(0, " + k + ", 1), which had that label already", x, 2);
            due.is("workOut(0) anew", x.workOut(0), 2);
            due.is("openAll(0)", x.openAll(0), 0b10);
        }
    }

    @Sentence(promise = 17, says = "BAD.")
    static void chooseNoSuchThing(Due due) {
        GarbledWires x = busy(0);
        String before = Bench.traces(x);
        for (int k : Bench.outside(0, 1)) {
            due.is("choose(0, " + k + ", 0)", x.choose(0, k, 0), Bench.BAD);
        }
        due.is("a wire that is no input", x.choose(0, 3, 0), Bench.BAD);
        for (int truth : Bench.outside(0, 1)) {
            due.is("choose(0, 0, " + truth + ")", x.choose(0, 0, truth), Bench.BAD);
        }
        for (int g : Bench.outside(0, 0)) {
            due.is("choose(" + g + ", 0, 0)", x.choose(g, 0, 0), Bench.BAD);
        }
        due.holds("nothing changes", before.equals(Bench.traces(x)));
    }

    @Sentence(promise = 17, says = "BAD.")
    static void chooseInputSixteen(Due due) {
        GarbledWires x = Bench.garbled("16;>0", 1, 0, 17);
        due.is("choose(0, 16, 0)", x.choose(0, 16, 0), Bench.BAD);
        due.is("choose(0, 32, 0)", x.choose(0, 32, 0), Bench.BAD);
        due.is("choose(0, 31, 0)", x.choose(0, 31, 0), Bench.BAD);
        due.is("no labels", x.told(0, 5), 0);
    }

    // ---- promise 18

    private static final String ENCODE = "INPUTS of a RUN get LABELS for bits of a number: how many.";

    @Sentence(promise = 18, says = ENCODE)
    static void encodeOneInputAndSixteen(Due due) {
        GarbledWires one = Bench.garbled("1;>0", 0, 0, 18);
        due.is("encode(0, 0) of one input", one.encode(0, 0), 1);
        due.is("its truth", one.open(0, 0), 0);
        due.is("encode(0, 1) of one input", one.encode(0, 1), 1);
        due.is("its truth", one.open(0, 0), 1);
        GarbledWires x = Bench.garbled("16;>0 1 7 8 9 13 14 15", 0, 0, 18);
        int[] wires = {0, 1, 7, 8, 9, 13, 14, 15};
        for (int k = 0; k < 16; k++) {
            due.is("encode(0, 1 << " + k + ")", x.encode(0, 1 << k), 16);
            for (int o = 0; o < 8; o++) {
                due.is("truth of input " + wires[o] + " by 1 << " + k, x.open(0, o), wires[o] == k ? 1 : 0);
            }
        }
        x.encode(0, 65535);
        due.is("all true", x.openAll(0), 255);
        x.encode(0, 0);
        due.is("none true", x.openAll(0), 0);
        due.is("labels", x.told(0, 5), 16);
    }

    @Sentence(promise = 18, says = ENCODE)
    static void encodeOverWhatWasLaid(Due due) {
        GarbledWires x = Bench.garbled("2;>0 1", 0, 0, 18);
        layLabel(x, 0, ZEROS);
        x.lay(0, 1, -1);
        x.encode(0, 2);
        due.is("openAll(0)", x.openAll(0), 2);
    }

    @Sentence(promise = 18, says = NO_MORE)
    static void encodeEndsWhatWasWorkedOut(Due due) {
        for (int inputs = 0; inputs < 4; inputs++) {
            GarbledWires x = busy(1);
            x.encode(0, inputs);
            workedOutIsNoMore(due, "encode(0, " + inputs + ")", x, 2);
        }
    }

    @Sentence(promise = 18, says = "BAD.")
    static void encodeNoSuchThing(Due due) {
        GarbledWires x = busy(0);
        String before = Bench.traces(x);
        for (int g : Bench.outside(0, 0)) {
            due.is("encode(" + g + ", 0)", x.encode(g, 0), Bench.BAD);
        }
        due.holds("nothing changes", before.equals(Bench.traces(x)));
    }

    // ---- promise 19

    private static final String LAY =
            "INPUT k of a RUN gets the first 16 bytes of THE TAPE as its LABEL (how = 0), or has none "
            + "(-1; THE TAPE is not read): 1.";

    @Sentence(promise = 19, says = LAY)
    static void layOf15And16And17Bytes(Due due) {
        byte[] label = Bench.coins(1, 19);
        for (int length : new int[] {0, 1, 15, 16, 17, 3000}) {
            GarbledWires x = Bench.garbled(AND, 0, 0, 19);
            Bench.feed(x, java.util.Arrays.copyOf(label, length));
            due.is("lay(0, 1, 0) of " + length, x.lay(0, 1, 0), length < 16 ? Bench.SHORT : 1);
            due.is("labels", x.told(0, 5), length < 16 ? 0 : 1);
            due.is("count(0)", x.count(0), 0);
            if (length < 16) {
                due.is("active(0, 1, 0)", x.active(0, 1, 0), Bench.NULL);
            } else {
                due.is("active(0, 1, 0)", x.active(0, 1, 0), label[0] & 255);
                due.is("active(0, 1, 15)", x.active(0, 1, 15), label[15] & 255);
            }
        }
    }

    @Sentence(promise = 19, says = LAY)
    static void layTheFirstAndTheLastInput(Due due) {
        GarbledWires x = Bench.garbled("16;>0", 0, 0, 19);
        for (int k : new int[] {0, 15}) {
            Bench.feed(x, Bench.coins(1, k));
            due.is("lay(0, " + k + ", 0)", x.lay(0, k, 0), 1);
            due.sameBytes("its label", Bench.activeOf(x, 0, k), Bench.coins(1, k));
        }
        due.is("labels", x.told(0, 5), 2);
        due.is("lay(0, 15, -1)", x.lay(0, 15, -1), 1);
        due.is("active(0, 15, 0)", x.active(0, 15, 0), Bench.NULL);
        due.is("lay(0, 0, -1)", x.lay(0, 0, -1), 1);
        due.is("lay(0, 0, -1) of one that has none", x.lay(0, 0, -1), 1);
        due.is("labels", x.told(0, 5), 0);
    }

    @Sentence(promise = 19, says = LAY)
    static void layNoneDoesNotReadTheTape(Due due) {
        GarbledWires x = Bench.garbled(AND, 0, 0, 19);
        x.encode(0, 3);
        due.is("lay(0, 0, -1) of an empty tape", x.lay(0, 0, -1), 1);
        x.feed(1, 7);
        due.is("lay(0, 0, -1) of 7 bytes", x.lay(0, 0, -1), 1);
        due.is("count(0)", x.count(0), 7);
        due.is("lay(0, 2, -1), which is BAD", x.lay(0, 2, -1), Bench.BAD);
        due.is("lay(1, 0, -1), which is BAD", x.lay(1, 0, -1), Bench.BAD);
        due.is("count(0) behind BAD", x.count(0), 7);
        x.clear();
        Bench.feed(x, Bench.coins(1, 3));
        x.lay(0, 1, -1);
        due.is("count(0)", x.count(0), 16);
        due.is("lay(0, 1, 0) of what is left", x.lay(0, 1, 0), 1);
        due.sameBytes("its label", Bench.activeOf(x, 0, 1), Bench.coins(1, 3));
    }

    @Sentence(promise = 19, says = "BAD; SHORT.")
    static void layNoSuchThing(Due due) {
        GarbledWires x = Bench.garbled(AND, 0, 0, 19);
        for (int how : new int[] {0, -1}) {
            for (int k : Bench.outside(0, 1)) {
                due.is("lay(0, " + k + ", " + how + "), ahead of SHORT", x.lay(0, k, how), Bench.BAD);
                Bench.feed(x, ZEROS);
                due.is("lay(0, " + k + ", " + how + ")", x.lay(0, k, how), Bench.BAD);
                x.clear();
            }
            for (int g : Bench.outside(0, 0)) {
                due.is("lay(" + g + ", 0, " + how + "), ahead of SHORT", x.lay(g, 0, how), Bench.BAD);
                Bench.feed(x, ZEROS);
                due.is("lay(" + g + ", 0, " + how + ")", x.lay(g, 0, how), Bench.BAD);
                x.clear();
            }
        }
        for (int how : Bench.outside(-1, 0)) {
            due.is("lay(0, 0, " + how + "), ahead of SHORT", x.lay(0, 0, how), Bench.BAD);
            Bench.feed(x, ZEROS);
            due.is("lay(0, 0, " + how + ")", x.lay(0, 0, how), Bench.BAD);
            x.clear();
        }
        due.is("no labels", x.told(0, 5), 0);
    }

    @Sentence(promise = 19, says = USED_UP)
    static void layUsesTheTapeUp(Due due) {
        GarbledWires x = Bench.garbled(AND, 0, 0, 19);
        int[][] calls = {{0, 0}, {0, 1}, {0, 2}, {0, -1}, {1, 0}, {-1, 0}};
        for (int[] c : calls) {
            for (int length : new int[] {15, 16, 40}) {
                Bench.feed(x, new byte[length]);
                x.lay(c[0], c[1], 0);
                due.is("count(0) behind lay(" + c[0] + ", " + c[1] + ", 0) of " + length, x.count(0), 0);
            }
        }
    }

    @Sentence(promise = 19, says = NO_MORE)
    static void layEndsWhatWasWorkedOut(Due due) {
        for (int k = 0; k < 2; k++) {
            GarbledWires x = busy(2);
            layLabel(x, k, Bench.labelOf(x, 0, k, 1));
            workedOutIsNoMore(due, "lay(0, " + k + ", 0) of the label that it had", x, 2);
            GarbledWires y = busy(2);
            y.lay(0, k, -1);
            workedOutIsNoMore(due, "lay(0, " + k + ", -1)", y, 1);
            due.is("workOut(0)", y.workOut(0), Bench.NULL);
        }
    }

    @Sentence(promise = 19, says = NOTHING_CHANGES)
    static void layRefusedChangesNothing(Due due) {
        GarbledWires x = busy(1);
        String before = Bench.traces(x);
        Bench.feed(x, new byte[15]);
        due.is("lay(0, 0, 0) of 15 bytes", x.lay(0, 0, 0), Bench.SHORT);
        due.is("lay(0, 1, 0) of none", x.lay(0, 1, 0), Bench.SHORT);
        Bench.feed(x, ZEROS);
        due.is("lay(0, 2, 0)", x.lay(0, 2, 0), Bench.BAD);
        due.is("lay(0, 2, -1)", x.lay(0, 2, -1), Bench.BAD);
        due.is("lay(0, 0, -2)", x.lay(0, 0, -2), Bench.BAD);
        due.is("lay(0, 0, 1)", x.lay(0, 0, 1), Bench.BAD);
        due.holds("nothing changes", before.equals(Bench.traces(x)));
    }

    // ---- promise 20

    @Sentence(promise = 20, says = "WORKED OUT: how many GATES there are.")
    static void workOutNoGatesAndForty(Due due) {
        for (int way = 0; way < 3; way++) {
            GarbledWires none = Bench.garbled("1;>0", way, 0, 20);
            none.encode(0, 1);
            due.is("workOut(0) of no gates", none.workOut(0), 0);
            due.is("openAll(0)", none.openAll(0), 1);
            GarbledWires most = Bench.garbled(Bench.biggestText(), way, 0, 20);
            for (int inputs : new int[] {0, 1, 32768, 65535}) {
                most.encode(0, inputs);
                due.is("workOut(0) of 40 gates", most.workOut(0), 40);
                due.is("openAll(0)", most.openAll(0), most.plain(0, inputs));
            }
            due.is("once more", most.workOut(0), 40);
        }
    }

    /** Labels that are none of the garbled ones, of zeros and of ones, go through as any do. */
    @Sentence(promise = 20, says = "^ both xored; ! A itself")
    static void workOutLabelsOfZerosAndOnes(Due due) {
        byte[] ones = Bench.hex("ffffffffffffffffffffffffffffffff");
        GarbledWires x = Bench.garbled("2;^0 1;^0 0;!2;!3;>4", 0, 0, 20);
        layLabel(x, 0, ones);
        layLabel(x, 1, ZEROS);
        x.workOut(0);
        due.sameBytes("^ of ones and zeros", Bench.activeOf(x, 0, 2), ones);
        due.sameBytes("^ of ones and ones", Bench.activeOf(x, 0, 3), ZEROS);
        due.sameBytes("! of ones", Bench.activeOf(x, 0, 4), ones);
        due.sameBytes("! of zeros", Bench.activeOf(x, 0, 5), ZEROS);
        due.is("told(0, 6)", x.told(0, 6), 0);
    }

    /** The four colours take the four rows of FOUR; of THREE, no row at all behind colours 0 0. */
    @Sentence(promise = 20, says = "FOUR, THREE: the HASH of both by t, xor the ROW by their COLOURS")
    static void workOutByTheFirstAndTheLastRow(Due due) {
        for (int way = 0; way < 2; way++) {
            for (int r = 0; r < 4; r++) {
                GarbledWires x = Bench.garbled("2;|0 1;&0 1;>3", way, 0, 20);
                byte[] a = Bench.hex("ff00000000000000000000000000000" + r / 2);
                byte[] b = Bench.hex("8000000000000000000000000000000" + r % 2);
                layLabel(x, 0, a);
                layLabel(x, 1, b);
                x.workOut(0);
                byte[] row = way == 1 && r == 0 ? ZEROS : Bench.rowOf(x, 0, 1, r);
                due.sameBytes("way " + way + " by row " + r, Bench.activeOf(x, 0, 3),
                        Bench.xor(Bench.hash(ZEROS, a, b, 1), row));
                due.is("it is forged", x.open(0, 0), 2);
            }
        }
    }

    @Sentence(promise = 20, says =
            "HALVES: H(A) (xor ROW 0, if A's COLOUR is 1) xor H(B) (xor ROW 1 xor A, if B's COLOUR is 1).")
    static void workOutByNoRowAndByBoth(Due due) {
        for (int colours = 0; colours < 4; colours++) {
            GarbledWires x = Bench.garbled("2;|0 1;&0 1;>3", 2, 0, 20);
            byte[] a = Bench.hex("ff00000000000000000000000000000" + colours / 2);
            byte[] b = Bench.hex("8000000000000000000000000000000" + colours % 2);
            layLabel(x, 0, a);
            layLabel(x, 1, b);
            x.workOut(0);
            byte[] want = Bench.xor(Bench.hash(ZEROS, a, null, 2), Bench.hash(ZEROS, b, null, 3));
            if (colours / 2 == 1) {
                want = Bench.xor(want, Bench.rowOf(x, 0, 1, 0));
            }
            if (colours % 2 == 1) {
                want = Bench.xor(Bench.xor(want, Bench.rowOf(x, 0, 1, 1)), a);
            }
            due.sameBytes("HALVES of colours " + colours, Bench.activeOf(x, 0, 3), want);
        }
    }

    @Sentence(promise = 20, says = "A RUN has a LABEL for each INPUT, some of them none.")
    static void workOutWhereSomeHaveNone(Due due) {
        GarbledWires x = Bench.garbled("16;&0 1;>16", 0, 0, 20);
        due.is("workOut(0) where none has one", x.workOut(0), Bench.NULL);
        for (int k = 0; k < 16; k++) {
            x.encode(0, 65535);
            x.lay(0, k, -1);
            due.is("workOut(0) where input " + k + " has none", x.workOut(0), Bench.NULL);
            due.is("labels", x.told(0, 5), 15);
        }
        x.choose(0, 15, 1);
        due.is("workOut(0) where all have one", x.workOut(0), 1);
    }

    @Sentence(promise = 20, says = "BAD; NULL: an INPUT has no LABEL.")
    static void workOutNoSuchThing(Due due) {
        GarbledWires x = Bench.garbled(AND, 0, 0, 20);
        for (int g : Bench.outside(0, 0)) {
            due.is("workOut(" + g + ")", x.workOut(g), Bench.BAD);
        }
        due.is("workOut(0)", x.workOut(0), Bench.NULL);
        GarbledWires unused = Bench.garbled("2;!0;>2", 0, 0, 20);
        unused.choose(0, 0, 1);
        due.is("an input that no gate takes has none", unused.workOut(0), Bench.NULL);
    }

    @Sentence(promise = 20, says = NOTHING_CHANGES)
    static void workOutRefusedChangesNothing(Due due) {
        GarbledWires x = busy(2);
        x.lay(0, 1, -1);
        String before = Bench.traces(x);
        due.is("workOut(0)", x.workOut(0), Bench.NULL);
        due.is("workOut(1)", x.workOut(1), Bench.BAD);
        due.holds("nothing changes", before.equals(Bench.traces(x)));
        due.is("blocks of the latest that was not refused", x.told(0, 6), 2);
    }

    // ---- promise 21

    @Sentence(promise = 21, says = "Byte i of the LABEL of a WIRE of a RUN.")
    static void activeOfTheFirstAndTheLastWire(Due due) {
        GarbledWires x = Bench.garbled(Bench.biggestText(), 1, 0, 21);
        x.encode(0, 65535);
        x.workOut(0);
        int last = x.plain(0, 65535) & 1;
        for (int i = 0; i < 16; i++) {
            due.is("active(0, 0, " + i + ")", x.active(0, 0, i), x.label(0, 0, 1, i));
            due.is("active(0, 15, " + i + ")", x.active(0, 15, i), x.label(0, 15, 1, i));
            due.is("active(0, 55, " + i + ")", x.active(0, 55, i), x.label(0, 55, last, i));
        }
    }

    @Sentence(promise = 21, says = "Byte i of the LABEL of a WIRE of a RUN.")
    static void activeIsNeverBelowZero(Due due) {
        GarbledWires x = Bench.garbled("1;>0", 0, 0, 21);
        layLabel(x, 0, Bench.hex("ff80007f00000000ffffffffffffff80"));
        int[] want = {255, 128, 0, 127, 0, 0, 0, 0, 255, 255, 255, 255, 255, 255, 255, 128};
        for (int i = 0; i < 16; i++) {
            due.is("active(0, 0, " + i + ")", x.active(0, 0, i), want[i]);
        }
    }

    @Sentence(promise = 21, says = "BAD; NULL.")
    static void activeOfNoSuchThing(Due due) {
        GarbledWires x = Bench.garbled(AND, 0, 0, 21);
        for (int round = 0; round < 2; round++) {
            for (int wire : Bench.outside(0, 2)) {
                due.is("active(0, " + wire + ", 0)", x.active(0, wire, 0), Bench.BAD);
            }
            for (int i : Bench.outside(0, 15)) {
                due.is("active(0, 0, " + i + ")", x.active(0, 0, i), Bench.BAD);
                due.is("active(0, 2, " + i + ")", x.active(0, 2, i), Bench.BAD);
            }
            for (int g : Bench.outside(0, 0)) {
                due.is("active(" + g + ", 0, 0)", x.active(g, 0, 0), Bench.BAD);
            }
            x.encode(0, 0);
            x.workOut(0);
        }
        GarbledWires biggest = Bench.garbled(Bench.biggestText(), 0, 0, 21);
        due.is("active(0, 55, 0)", biggest.active(0, 55, 0), Bench.NULL);
        due.is("active(0, 56, 0)", biggest.active(0, 56, 0), Bench.BAD);
    }

    @Sentence(promise = 21, says = "BAD; NULL.")
    static void activeWhereNoLabelIs(Due due) {
        GarbledWires x = Bench.garbled(AND, 0, 0, 21);
        for (int wire = 0; wire < 3; wire++) {
            due.is("active(0, " + wire + ", 0) at first", x.active(0, wire, 0), Bench.NULL);
        }
        x.choose(0, 0, 0);
        due.holds("input 0 has one", x.active(0, 0, 15) >= 0);
        due.is("input 1 has none", x.active(0, 1, 15), Bench.NULL);
        x.choose(0, 1, 0);
        due.is("wire 2 has none ahead of workOut()", x.active(0, 2, 0), Bench.NULL);
        x.workOut(0);
        due.holds("wire 2 has one", x.active(0, 2, 0) >= 0);
        x.lay(0, 0, -1);
        due.is("input 0 has none any more", x.active(0, 0, 0), Bench.NULL);
        due.is("wire 2 has none any more", x.active(0, 2, 0), Bench.NULL);
        due.holds("input 1 has its own still", x.active(0, 1, 0) >= 0);
    }

    @Sentence(promise = 21, says = NOTHING_CHANGES)
    static void refusedQuestionsOfRunsChangeNothing(Due due) {
        GarbledWires x = busy(2);
        x.choose(0, 0, 1);
        x.feed(1, 5);
        String before = Bench.traces(x);
        due.is("active(0, 4, 0)", x.active(0, 4, 0), Bench.BAD);
        due.is("active(0, 2, 0)", x.active(0, 2, 0), Bench.NULL);
        due.is("open(0, 2)", x.open(0, 2), Bench.BAD);
        due.is("open(0, 0)", x.open(0, 0), Bench.NULL);
        due.is("openAll(1)", x.openAll(1), Bench.BAD);
        due.is("openAll(0)", x.openAll(0), Bench.NULL);
        due.holds("all is as before", before.equals(Bench.traces(x)));
        due.is("count(0), for they do not read the tape", x.count(0), 5);
    }

    // ---- promise 22

    private static final int[] PLACES = {16, 8, 8, 4, 2};
    private static final String KINDS =
            "0 BYTES (16), 1 SHORTS (8), 2 CHARS (8), 3 INTS (4), 4 LONGS (2), the first bytes "
            + "highest.";
    private static final String PLACE =
            "Place i of the ROW that is the LABEL of a WIRE of a RUN, the ROW taken as one of a KIND "
            + "(a number as Java has it).";
    private static final String REFUSED_PLACE = "0, with status(): BAD; NULL; CAST; INDEX.";

    private static void refusedPlace(Due due, GarbledWires x, int garbled, int wire, int kind, int i, int why) {
        String call = "place(" + garbled + ", " + wire + ", " + kind + ", " + i + ")";
        due.is(call, x.place(garbled, wire, kind, i), 0);
        due.is("status() of " + call, x.status(), why);
    }

    @Sentence(promise = 22, says = KINDS)
    static void placesOfEachKind(Due due) {
        long[][] want = {
            {-128, 127, -1, 0, 127, -1, -1, -1, 0, 1, -128, 0, 0, 0, 0, 0},
            {-32641, -256, 32767, -1, 1, -32768, 0, 0},
            {32895, 65280, 32767, 65535, 1, 32768, 0, 0},
            {0x807fff00, 0x7fffffff, 0x00018000, 0},
            {0x807fff007fffffffL, 0x0001800000000000L},
        };
        for (int kind = 0; kind < 5; kind++) {
            GarbledWires x = Bench.garbled("1;>0", 0, kind, 22);
            layLabel(x, 0, Bench.hex("807fff007fffffff0001800000000000"));
            for (int i = 0; i < PLACES[kind]; i++) {
                due.is("place(0, 0, " + kind + ", " + i + ")", x.place(0, 0, kind, i), want[kind][i]);
                due.is("status()", x.status(), 0);
            }
        }
    }

    @Sentence(promise = 22, says = PLACE)
    static void placesOfTheSmallestAndTheLargest(Due due) {
        String[] labels = {"80000000000000008000000000000000", "7fffffffffffffff7fffffffffffffff",
            "ffffffffffffffffffffffffffffffff", "00000000000000000000000000000000"};
        long[][] want = {
            {Byte.MIN_VALUE, Short.MIN_VALUE, Character.MAX_VALUE / 2 + 1, Integer.MIN_VALUE, Long.MIN_VALUE},
            {Byte.MAX_VALUE, Short.MAX_VALUE, Short.MAX_VALUE, Integer.MAX_VALUE, Long.MAX_VALUE},
            {-1, -1, Character.MAX_VALUE, -1, -1},
            {0, 0, 0, 0, 0},
        };
        for (int n = 0; n < labels.length; n++) {
            for (int kind = 0; kind < 5; kind++) {
                GarbledWires x = Bench.garbled("1;>0", 0, kind, 22);
                layLabel(x, 0, Bench.hex(labels[n]));
                for (int i : new int[] {0, PLACES[kind] / 2}) {
                    String call = "place(0, 0, " + kind + ", " + i + ") of " + labels[n];
                    due.is(call, x.place(0, 0, kind, i), want[n][kind]);
                    due.is("status()", x.status(), 0);
                }
            }
        }
    }

    @Sentence(promise = 22, says = PLACE)
    static void placesOfTheLastWire(Due due) {
        GarbledWires x = Bench.garbled(Bench.biggestText(), 2, 4, 22);
        x.encode(0, 0);
        x.workOut(0);
        long low = 0;
        for (int i = 8; i < 16; i++) {
            low = low << 8 | x.active(0, 55, i);
        }
        due.is("place(0, 55, 4, 1)", x.place(0, 55, 4, 1), low);
        refusedPlace(due, x, 0, 56, 4, 1, Bench.BAD);
        refusedPlace(due, x, 0, -1, 4, 1, Bench.BAD);
    }

    @Sentence(promise = 22, says = "INDEX (it has no such place).")
    static void placeThatARowDoesNotHave(Due due) {
        for (int kind = 0; kind < 5; kind++) {
            GarbledWires x = Bench.garbled("2;^0 1;>2", 0, kind, 22);
            x.encode(0, 1);
            x.workOut(0);
            for (int wire : new int[] {0, 2}) {
                for (int i : Bench.outside(0, PLACES[kind] - 1)) {
                    refusedPlace(due, x, 0, wire, kind, i, Bench.INDEX);
                }
                for (int i : new int[] {1 << 27, 1 << 28, 1 << 29, 1 << 30}) {
                    refusedPlace(due, x, 0, wire, kind, i, Bench.INDEX);
                }
                x.place(0, wire, kind, PLACES[kind] - 1);
                due.is("status() of the last place", x.status(), 0);
            }
        }
    }

    @Sentence(promise = 22, says = "CAST (a ROW is not of the KIND as which it is asked)")
    static void placeOfAnotherKind(Due due) {
        for (int kind = 0; kind < 5; kind++) {
            GarbledWires x = Bench.garbled("2;^0 1;>2", 0, kind, 22);
            x.encode(0, 1);
            layLabel(x, 1, ZEROS);
            x.workOut(0);
            for (int as = 0; as < 5; as++) {
                for (int wire = 0; wire < 3; wire++) {
                    long got = x.place(0, wire, as, 0);
                    due.is("status() of kind " + kind + " as " + as, x.status(), as == kind ? 0 : Bench.CAST);
                    due.holds("0 as another kind", as == kind || got == 0);
                }
            }
        }
    }

    @Sentence(promise = 22, says = "NULL (no LABEL is there)")
    static void placeWhereNoLabelIs(Due due) {
        GarbledWires x = Bench.garbled(AND, 0, 3, 22);
        for (int wire = 0; wire < 3; wire++) {
            refusedPlace(due, x, 0, wire, 3, 0, Bench.NULL);
        }
        x.choose(0, 0, 1);
        refusedPlace(due, x, 0, 1, 3, 0, Bench.NULL);
        x.choose(0, 1, 1);
        refusedPlace(due, x, 0, 2, 3, 0, Bench.NULL);
        x.workOut(0);
        x.place(0, 2, 3, 0);
        due.is("status() behind workOut()", x.status(), 0);
        x.lay(0, 1, -1);
        refusedPlace(due, x, 0, 1, 3, 3, Bench.NULL);
        refusedPlace(due, x, 0, 2, 3, 3, Bench.NULL);
        x.place(0, 0, 3, 3);
        due.is("status() of input 0", x.status(), 0);
    }

    @Sentence(promise = 22, says = REFUSED_PLACE)
    static void placeOfNoSuchThing(Due due) {
        GarbledWires x = Bench.garbled(AND, 0, 3, 22);
        x.encode(0, 0);
        for (int g : Bench.outside(0, 0)) {
            refusedPlace(due, x, g, 0, 3, 0, Bench.BAD);
        }
        for (int wire : Bench.outside(0, 2)) {
            refusedPlace(due, x, 0, wire, 3, 0, Bench.BAD);
        }
        for (int kind : Bench.outside(0, 4)) {
            refusedPlace(due, x, 0, 0, kind, 0, Bench.BAD);
        }
    }

    @Sentence(promise = 22, says = REFUSED_PLACE)
    static void placeRefusedByTheFirstOfSeveral(Due due) {
        GarbledWires x = Bench.garbled(AND, 0, 3, 22);
        refusedPlace(due, x, 0, 0, 5, 4, Bench.BAD);
        refusedPlace(due, x, 0, 3, 0, 4, Bench.BAD);
        refusedPlace(due, x, 1, 0, 0, 4, Bench.BAD);
        refusedPlace(due, x, 0, 0, 0, 16, Bench.NULL);
        refusedPlace(due, x, 0, 0, 3, 4, Bench.NULL);
        refusedPlace(due, x, 0, 2, 4, -1, Bench.NULL);
        x.encode(0, 0);
        refusedPlace(due, x, 0, 0, 0, 16, Bench.CAST);
        refusedPlace(due, x, 0, 0, 4, -1, Bench.CAST);
        refusedPlace(due, x, 0, 0, 3, 4, Bench.INDEX);
        refusedPlace(due, x, 0, 2, 3, 4, Bench.NULL);
        refusedPlace(due, x, 0, 0, -1, -1, Bench.BAD);
    }

    @Sentence(promise = 22, says = NOTHING_CHANGES)
    static void placeRefusedChangesNothingButItsStatus(Due due) {
        GarbledWires x = busy(0);
        x.feed(1, 5);
        String before = Bench.traces(x);
        refusedPlace(due, x, 0, 4, 3, 0, Bench.BAD);
        refusedPlace(due, x, 0, 3, 3, 4, Bench.INDEX);
        refusedPlace(due, x, 0, 0, 0, 0, Bench.CAST);
        due.holds("all is as before the last of these, which was the latest then, too", before.equals(Bench.traces(x)));
        due.is("count(0), for it does not read the tape", x.count(0), 5);
    }

    // ---- promise 23

    @Sentence(promise = 23, says = "OUTPUT i of a RUN OPENED: 0, 1; 2 FORGED.")
    static void openTheFirstAndTheEighth(Due due) {
        GarbledWires x = Bench.garbled("2;>0 0 0 0 0 0 0 1", 0, 0, 23);
        for (int inputs = 0; inputs < 4; inputs++) {
            x.encode(0, inputs);
            due.is("open(0, 0)", x.open(0, 0), inputs & 1);
            due.is("open(0, 7)", x.open(0, 7), inputs >> 1);
        }
        layLabel(x, 1, ZEROS);
        due.is("open(0, 6)", x.open(0, 6), 1);
        due.is("open(0, 7), forged", x.open(0, 7), 2);
    }

    @Sentence(promise = 23, says = "its LABEL is that for 0 or that for 1, so is it; else it is FORGED.")
    static void openALabelOfOneBitChanged(Due due) {
        for (int truth = 0; truth < 2; truth++) {
            for (int bit = 0; bit < 128; bit++) {
                GarbledWires x = Bench.garbled("1;>0", 0, 0, 23);
                byte[] label = Bench.labelOf(x, 0, 0, truth);
                layLabel(x, 0, label);
                due.is("open(0, 0) of the label for " + truth, x.open(0, 0), truth);
                label[bit / 8] ^= (byte) (1 << bit % 8);
                layLabel(x, 0, label);
                due.is("open(0, 0) of bit " + bit + " changed", x.open(0, 0), 2);
            }
        }
    }

    /** With a delta of 1 the two labels differ in the colour alone. */
    @Sentence(promise = 23, says = "its LABEL is that for 0 or that for 1, so is it; else it is FORGED.")
    static void openLabelsThatDifferByOneBit(Due due) {
        GarbledWires x = new GarbledWires();
        Bench.circuit(x, "1;>0");
        Bench.feed(x, new byte[32]);
        x.garble(0, 0, 0);
        byte[] label = new byte[16];
        for (int last = 0; last < 4; last++) {
            label[15] = (byte) last;
            layLabel(x, 0, label);
            due.is("open(0, 0) of " + last, x.open(0, 0), Math.min(last, 2));
        }
    }

    @Sentence(promise = 23, says = "its LABEL is that for 0 or that for 1, so is it; else it is FORGED.")
    static void openTheLabelOfAnotherWire(Due due) {
        GarbledWires x = Bench.garbled("2;>0 1", 0, 0, 23);
        layLabel(x, 0, Bench.labelOf(x, 0, 1, 0));
        layLabel(x, 1, Bench.labelOf(x, 0, 0, 1));
        due.is("open(0, 0)", x.open(0, 0), 2);
        due.is("open(0, 1)", x.open(0, 1), 2);
        layLabel(x, 0, Bench.labelOf(x, 0, -1, 0));
        due.is("open(0, 0) of delta", x.open(0, 0), 2);
    }

    @Sentence(promise = 23, says = "BAD; NULL.")
    static void openNoSuchThing(Due due) {
        GarbledWires x = Bench.garbled("2;&0 1;>2 0", 0, 0, 23);
        for (int round = 0; round < 2; round++) {
            for (int i : Bench.outside(0, 1)) {
                due.is("open(0, " + i + ")", x.open(0, i), Bench.BAD);
            }
            for (int g : Bench.outside(0, 0)) {
                due.is("open(" + g + ", 0)", x.open(g, 0), Bench.BAD);
            }
            x.encode(0, 0);
            x.workOut(0);
        }
        GarbledWires eight = Bench.garbled("1;>0 0 0 0 0 0 0 0", 0, 0, 23);
        due.is("open(0, 7) of eight", eight.open(0, 7), Bench.NULL);
        due.is("open(0, 8) of eight", eight.open(0, 8), Bench.BAD);
    }

    @Sentence(promise = 23, says = "BAD; NULL.")
    static void openWhereNoLabelIs(Due due) {
        GarbledWires x = Bench.garbled("2;&0 1;>2 0", 0, 0, 23);
        due.is("open(0, 0) at first", x.open(0, 0), Bench.NULL);
        due.is("open(0, 1) at first", x.open(0, 1), Bench.NULL);
        x.choose(0, 0, 1);
        due.is("open(0, 1) of an input with a label", x.open(0, 1), 1);
        due.is("open(0, 0) of a gate", x.open(0, 0), Bench.NULL);
        x.choose(0, 1, 1);
        due.is("open(0, 0) ahead of workOut()", x.open(0, 0), Bench.NULL);
        x.workOut(0);
        due.is("open(0, 0)", x.open(0, 0), 1);
    }

    // ---- promise 24

    private static final String OPEN_ALL = "All OUTPUTS OPENED, as bits; -100 less the first that is FORGED.";

    @Sentence(promise = 24, says = OPEN_ALL)
    static void openAllOfOneAndOfEight(Due due) {
        GarbledWires one = Bench.garbled("1;>0", 0, 0, 24);
        one.encode(0, 0);
        due.is("openAll(0) of one", one.openAll(0), 0);
        one.encode(0, 1);
        due.is("openAll(0) of one", one.openAll(0), 1);
        GarbledWires x = Bench.garbled("8;>0 1 2 3 4 5 6 7", 0, 0, 24);
        for (int inputs : new int[] {0, 1, 128, 127, 255, 0xaa}) {
            x.encode(0, inputs);
            due.is("openAll(0) of eight", x.openAll(0), inputs);
        }
    }

    @Sentence(promise = 24, says = OPEN_ALL)
    static void openAllOfForgedOnes(Due due) {
        GarbledWires x = Bench.garbled("8;>0 1 2 3 4 5 6 7", 0, 0, 24);
        for (int first = 7; first >= 0; first--) {
            x.encode(0, 255);
            layLabel(x, first, ZEROS);
            due.is("openAll(0), output " + first + " forged", x.openAll(0), -100 - first);
            layLabel(x, 7, ZEROS);
            due.is("openAll(0), the last forged, too", x.openAll(0), -100 - first);
        }
        x.encode(0, 255);
        due.is("openAll(0), none forged", x.openAll(0), 255);
    }

    @Sentence(promise = 24, says = "BAD; NULL: one has no LABEL.")
    static void openAllWhereOneHasNone(Due due) {
        GarbledWires x = Bench.garbled("8;>0 1 2 3 4 5 6 7", 0, 0, 24);
        due.is("openAll(0) at first", x.openAll(0), Bench.NULL);
        for (int k = 0; k < 8; k++) {
            x.encode(0, 255);
            x.lay(0, k, -1);
            due.is("openAll(0), output " + k + " has none", x.openAll(0), Bench.NULL);
            layLabel(x, (k + 1) % 8, ZEROS);
            due.is("openAll(0), NULL ahead of a forged one", x.openAll(0), Bench.NULL);
        }
        GarbledWires y = Bench.garbled("2;>1", 0, 0, 24);
        y.choose(0, 1, 1);
        due.is("openAll(0) where an input that is no output has none", y.openAll(0), 1);
    }

    @Sentence(promise = 24, says = "BAD; NULL: one has no LABEL.")
    static void openAllOfNoSuchThing(Due due) {
        GarbledWires x = Bench.garbled("1;>0", 0, 0, 24);
        for (int g : Bench.outside(0, 0)) {
            due.is("openAll(" + g + ")", x.openAll(g), Bench.BAD);
        }
        due.is("openAll(0)", x.openAll(0), Bench.NULL);
    }

    // ---- promise 25

    private static final String AGREES = "tells what plain() does (up to the first that does not): 1, 0.";
    private static final String AGREES_BAD = "BAD: not 0 <= from <= to <= 65536, or more than 8 numbers.";

    @Sentence(promise = 25, says = AGREES_BAD)
    static void agreesOfNoneAndOfEight(Due due) {
        GarbledWires x = Bench.garbled(Bench.biggestText(), 2, 0, 25);
        int[][] fine = {{0, 0}, {0, 1}, {0, 8}, {1, 9}, {7, 7}, {65528, 65536}, {65535, 65536}, {65536, 65536},
            {32764, 32772}};
        for (int[] f : fine) {
            due.is("agrees(0, " + f[0] + ", " + f[1] + ")", x.agrees(0, f[0], f[1]), 1);
        }
        int[][] wrong = {{0, 9}, {1, 10}, {-1, 0}, {-1, 1}, {-8, 0}, {-1, -1}, {1, 0}, {8, 0}, {65536, 65535},
            {65536, 65537}, {65529, 65537}, {65537, 65537}, {65537, 65536}, {65527, 65536}, {0, 65536},
            {0, Integer.MAX_VALUE}, {Integer.MIN_VALUE, 0}, {Integer.MIN_VALUE, Integer.MIN_VALUE},
            {Integer.MAX_VALUE, Integer.MAX_VALUE},
            {Integer.MIN_VALUE, Integer.MAX_VALUE}, {Integer.MAX_VALUE, Integer.MIN_VALUE}, {0, -1},
            {0, Integer.MIN_VALUE}};
        for (int[] w : wrong) {
            due.is("agrees(0, " + w[0] + ", " + w[1] + ")", x.agrees(0, w[0], w[1]), Bench.BAD);
        }
    }

    @Sentence(promise = 25, says = AGREES_BAD)
    static void agreesOfNoSuchThing(Due due) {
        GarbledWires x = Bench.garbled("1;>0", 0, 0, 25);
        for (int g : Bench.outside(0, 0)) {
            due.is("agrees(" + g + ", 0, 0)", x.agrees(g, 0, 0), Bench.BAD);
            due.is("agrees(" + g + ", 0, 1)", x.agrees(g, 0, 1), Bench.BAD);
        }
    }

    /** One of the eight numbers takes the row that is spoilt. */
    @Sentence(promise = 25, says = AGREES)
    static void agreesUpToTheFirstThatDoesNot(Due due) {
        String all = "3;&0 1;&3 2;>4";
        GarbledWires x = Bench.garbled(all, 0, 0, 25);
        int a = Bench.colour(Bench.labelOf(x, 0, 3, 1));
        int b = Bench.colour(Bench.labelOf(x, 0, 2, 1));
        x.spoil(0, 1, 2 * a + b, 0, 1);
        for (int from = 0; from < 8; from++) {
            due.is("agrees(0, " + from + ", 7)", x.agrees(0, from, 7), 1);
            due.is("agrees(0, " + from + ", 8)", x.agrees(0, from, 8), 0);
        }
        due.is("agrees(0, 7, 7) of none", x.agrees(0, 7, 7), 1);
        due.is("agrees(0, 8, 15)", x.agrees(0, 8, 15), 1);
        x.spoil(0, 1, 2 * a + b, 0, 1);
        due.is("agrees(0, 0, 8), spoilt back", x.agrees(0, 0, 8), 1);
    }

    /** With all stored rows spoilt, only the number that takes ROW 0 of THREE, which is not stored, agrees. */
    @Sentence(promise = 25, says = AGREES)
    static void agreesWhereOneNumberAloneDoes(Due due) {
        for (long seed = 0; seed < 8; seed++) {
            GarbledWires x = Bench.garbled("2;#0 1;>2", 1, 0, seed);
            int alone = Bench.colour(Bench.labelOf(x, 0, 0, 0)) | Bench.colour(Bench.labelOf(x, 0, 1, 0)) << 1;
            for (int r = 1; r < 4; r++) {
                x.spoil(0, 0, r, 15, 128);
            }
            for (int inputs = 0; inputs < 4; inputs++) {
                due.is("agrees of number " + inputs, x.agrees(0, inputs, inputs + 1), inputs == alone ? 1 : 0);
            }
            due.is("agrees(0, 0, 4)", x.agrees(0, 0, 4), 0);
            due.is("agrees from it on", x.agrees(0, alone, alone + 2), 0);
            due.is("agrees of none", x.agrees(0, alone, alone), 1);
        }
    }

    @Sentence(promise = 25, says = "The RUN at hand and told() stay as they are.")
    static void agreesLeavesTheRun(Due due) {
        for (int way = 0; way < 3; way++) {
            GarbledWires x = Bench.garbled(AND, way, 0, 25);
            x.agrees(0, 0, 4);
            due.is("labels of an empty run", x.told(0, 5), 0);
            due.is("no workOut()", x.told(0, 6), 0);
            due.is("workOut(0) of an empty run", x.workOut(0), Bench.NULL);
            x.choose(0, 0, 1);
            x.agrees(0, 0, 4);
            due.is("labels of one", x.told(0, 5), 1);
            x.choose(0, 1, 1);
            x.workOut(0);
            byte[] before = Bench.activeOf(x, 0, 2);
            int[] told = new int[7];
            for (int what = 0; what < 7; what++) {
                told[what] = x.told(0, what);
            }
            x.agrees(0, 0, 4);
            for (int what = 0; what < 7; what++) {
                due.is("told(0, " + what + ")", x.told(0, what), told[what]);
            }
            due.sameBytes("a label of the run", Bench.activeOf(x, 0, 2), before);
            due.is("openAll(0)", x.openAll(0), 1);
        }
    }

    @Sentence(promise = 25, says = NOTHING_CHANGES)
    static void agreesRefusedChangesNothing(Due due) {
        GarbledWires x = busy(0);
        String before = Bench.traces(x);
        due.is("agrees(0, 0, 9)", x.agrees(0, 0, 9), Bench.BAD);
        due.is("agrees(0, 1, 0)", x.agrees(0, 1, 0), Bench.BAD);
        due.is("agrees(1, 0, 4)", x.agrees(1, 0, 4), Bench.BAD);
        due.holds("nothing changes", before.equals(Bench.traces(x)));
    }
}
