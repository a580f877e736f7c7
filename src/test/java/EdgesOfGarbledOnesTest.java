/** Boundary cases of promises 12 to 16: garbling, what is told of it, labels, rows, and rows that are spoilt. */
public final class EdgesOfGarbledOnesTest {
    private static final String USED_UP = "what reads it (whether refused or not) uses it up";
    private static final String NOTHING_CHANGES = "Refused, and nothing changes but THE TAPE";
    private static final String NOT_STORED = "(ROW 0 is all 0, and is not stored)";
    private static final String AND = "2;&0 1;>2";
    private static final byte[] ZEROS = new byte[16];
    private static final byte[] ONES = Bench.hex("ffffffffffffffffffffffffffffffff");

    public static void main(String[] args) {
        Sentences.run(EdgesOfGarbledOnesTest.class);
    }

    /** The object of a state in which a change would be seen: one is garbled and worked out, place() was refused. */
    private static GarbledWires busy(int way) {
        GarbledWires x = Bench.garbled("2;&0 1;!2;>3 0", way, 3, 77);
        Bench.feedCoins(x, 1, 78);
        x.make(2, 9);
        x.encode(0, 3);
        x.workOut(0);
        x.place(0, 0, 0, 0);
        return x;
    }

    // ---- promise 12

    @Sentence(promise = 12, says = "A CIRCUIT is GARBLED by a WAY, its LABELS in ROWS of a KIND: its number.")
    static void garbleByEachWayAndKind(Due due) {
        for (int kind = 0; kind < 5; kind++) {
            for (int way = 0; way < 3; way++) {
                GarbledWires x = new GarbledWires();
                Bench.circuit(x, "1;>0");
                Bench.circuit(x, AND);
                Bench.feedCoins(x, 4, way);
                due.is("garble(1, " + way + ", " + kind + ")", x.garble(1, way, kind), 0);
                due.is("told(0, 1)", x.told(0, 1), way);
                due.is("told(0, 2)", x.told(0, 2), kind);
                due.is("agrees(0, 0, 4)", x.agrees(0, 0, 4), 1);
            }
        }
    }

    @Sentence(promise = 12, says = "GARBLED ones (6 at most) are of a CIRCUIT and a WAY: 0 FOUR, 1 THREE, 2 HALVES.")
    static void garbledOnesUpToSix(Due due) {
        GarbledWires x = new GarbledWires();
        Bench.circuit(x, "1;>0");
        for (int g = 0; g < 6; g++) {
            Bench.feedCoins(x, 2, g);
            due.is("garbled one " + g, x.garble(0, g % 3, 0), g);
            due.is("count(2)", x.count(2), g + 1);
        }
        Bench.feedCoins(x, 2, 6);
        due.is("a seventh", x.garble(0, 0, 0), Bench.FULL);
        due.is("count(2)", x.count(2), 6);
        due.is("told(5, 0)", x.told(5, 0), 0);
        due.is("told(6, 0)", x.told(6, 0), Bench.BAD);
        for (int g = 0; g < 6; g++) {
            due.is("its own label", x.label(g, 0, 0, 0), Bench.coins(2, g)[16] & 255);
        }
    }

    @Sentence(promise = 12, says = "BAD; FULL; SHORT.")
    static void garbleWhatIsNotAsTold(Due due) {
        GarbledWires x = new GarbledWires();
        Bench.circuit(x, "1;>0");
        for (int c : Bench.outside(0, 0)) {
            Bench.feedCoins(x, 2, 1);
            due.is("garble(" + c + ", 0, 0)", x.garble(c, 0, 0), Bench.BAD);
        }
        for (int way : Bench.outside(0, 2)) {
            Bench.feedCoins(x, 2, 1);
            due.is("garble(0, " + way + ", 0)", x.garble(0, way, 0), Bench.BAD);
        }
        for (int kind : Bench.outside(0, 4)) {
            Bench.feedCoins(x, 2, 1);
            due.is("garble(0, 0, " + kind + ")", x.garble(0, 0, kind), Bench.BAD);
        }
        due.is("count(2)", x.count(2), 0);
    }

    @Sentence(promise = 12, says = "BAD; FULL; SHORT.")
    static void garbleRefusedByTheFirstOfSeveral(Due due) {
        GarbledWires x = new GarbledWires();
        Bench.circuit(x, "1;>0");
        int[][] wrong = {{1, 0, 0}, {-1, 0, 0}, {0, 3, 0}, {0, -1, 0}, {0, 0, 5}, {0, 0, -1}};
        for (int[] w : wrong) {
            due.is("BAD ahead of SHORT", x.garble(w[0], w[1], w[2]), Bench.BAD);
        }
        for (int g = 0; g < 6; g++) {
            due.is("SHORT", x.garble(0, 0, 0), Bench.SHORT);
            Bench.feedCoins(x, 2, g);
            x.garble(0, 0, 0);
        }
        due.is("FULL ahead of SHORT", x.garble(0, 0, 0), Bench.FULL);
        for (int[] w : wrong) {
            due.is("BAD ahead of FULL and SHORT", x.garble(w[0], w[1], w[2]), Bench.BAD);
            Bench.feedCoins(x, 2, 1);
            due.is("BAD ahead of FULL", x.garble(w[0], w[1], w[2]), Bench.BAD);
        }
    }

    private static final String COINS =
            "and for FOUR of what each TABLED GATE makes, in order; SHORT if there are too few; "
            + "what is left over is not looked at.";

    @Sentence(promise = 12, says = COINS)
    static void garbleOfJustEnoughCoins(Due due) {
        String[] texts = {"1;>0", "1;!0;^0 1;>2", AND, "16;>15", Bench.biggestText()};
        int[] inputs = {1, 1, 2, 16, 16};
        int[] tabled = {0, 0, 1, 0, 40};
        for (int c = 0; c < texts.length; c++) {
            for (int way = 0; way < 3; way++) {
                int least = 16 * (1 + inputs[c] + (way == 0 ? tabled[c] : 0));
                GarbledWires x = new GarbledWires();
                Bench.circuit(x, texts[c]);
                due.is("an empty tape", x.garble(0, way, 0), Bench.SHORT);
                Bench.feed(x, new byte[least - 1]);
                due.is("way " + way + " of circuit " + c + ", a byte too few", x.garble(0, way, 0), Bench.SHORT);
                Bench.feed(x, new byte[least]);
                due.is("way " + way + " of circuit " + c + ", just enough", x.garble(0, way, 0), 0);
                Bench.feed(x, new byte[least + 1]);
                due.is("way " + way + " of circuit " + c + ", a byte too many", x.garble(0, way, 0), 1);
            }
        }
    }

    @Sentence(promise = 12, says = COINS)
    static void garbleOfCoinsThatAreUsedUp(Due due) {
        GarbledWires x = new GarbledWires();
        Bench.circuit(x, "1;>0");
        Bench.feedCoins(x, 4, 1);
        x.garble(0, 0, 0);
        due.is("what was left over is not there any more", x.garble(0, 0, 0), Bench.SHORT);
        Bench.feed(x, new byte[31]);
        due.is("nor does it fill up", x.garble(0, 0, 0), Bench.SHORT);
    }

    @Sentence(promise = 12, says = COINS)
    static void garbleOfAFullTape(Due due) {
        GarbledWires x = new GarbledWires();
        Bench.circuit(x, "1;>0");
        byte[] coins = Bench.coins(250, 12);
        Bench.feed(x, coins);
        due.is("garble(0, 2, 0) of 4000 bytes", x.garble(0, 2, 0), 0);
        due.is("the label is the second coin", x.label(0, 0, 0, 15), coins[31] & 255);
        due.is("count(0)", x.count(0), 0);
    }

    /** Gates that are not tabled take no coin, wherever they stand among those that are. */
    @Sentence(promise = 12, says = COINS)
    static void garbleTakesCoinsForTabledGatesAlone(Due due) {
        byte[] coins = Bench.coins(5, 12);
        for (String text : new String[] {"2;!0;&0 1;^0 1;|0 1;!1;>6", "2;^0 1;%0 1;!2;/0 1;^0 1;>6"}) {
            GarbledWires x = new GarbledWires();
            Bench.circuit(x, text);
            Bench.feed(x, java.util.Arrays.copyOf(coins, 79));
            due.is("garble(0, 0, 0) of a byte too few", x.garble(0, 0, 0), Bench.SHORT);
            Bench.feed(x, coins);
            due.is("garble(0, 0, 0) of five coins", x.garble(0, 0, 0), 0);
            for (int n = 1; n < 5; n++) {
                int wire = n < 3 ? n - 1 : 2 * n - 3;
                byte[] coin = java.util.Arrays.copyOfRange(coins, 16 * n, 16 * n + 16);
                due.sameBytes("coin " + n + " is of wire " + wire, Bench.labelOf(x, 0, wire, 0), coin);
            }
        }
    }

    @Sentence(promise = 12, says = "^: the LABEL for 0 is both for 0, xored; !: that of the WIRE for 1.")
    static void garbleGatesOfOneWireTwice(Due due) {
        for (int way = 0; way < 3; way++) {
            GarbledWires x = Bench.garbled("2;^0 0;!2;^3 1;!4;>5", way, 0, 12);
            byte[] delta = Bench.labelOf(x, 0, -1, 0);
            byte[] second = Bench.labelOf(x, 0, 1, 0);
            due.sameBytes("^ of one wire twice", Bench.labelOf(x, 0, 2, 0), ZEROS);
            due.sameBytes("! of it", Bench.labelOf(x, 0, 3, 0), delta);
            due.sameBytes("! of it, for 1", Bench.labelOf(x, 0, 3, 1), ZEROS);
            due.sameBytes("^ of that and another", Bench.labelOf(x, 0, 4, 0), Bench.xor(delta, second));
            due.sameBytes("! of this", Bench.labelOf(x, 0, 5, 0), second);
        }
    }

    @Sentence(promise = 12, says = "DELTA (of its last byte the lowest bit becomes 1)")
    static void deltaIsNeverEven(Due due) {
        for (int last : new int[] {0, 1, 2, 0x7e, 0x7f, 0x80, 0xfe, 0xff}) {
            for (int way = 0; way < 3; way++) {
                GarbledWires x = new GarbledWires();
                Bench.circuit(x, "1;>0");
                byte[] delta = ZEROS.clone();
                delta[15] = (byte) last;
                Bench.feed(x, delta);
                Bench.feed(x, ONES);
                x.garble(0, way, 0);
                delta[15] |= 1;
                due.sameBytes("delta of " + last, Bench.labelOf(x, 0, -1, 0), delta);
                due.sameBytes("the label for 0 stays", Bench.labelOf(x, 0, 0, 0), ONES);
                due.sameBytes("the label for 1", Bench.labelOf(x, 0, 0, 1), Bench.xor(ONES, delta));
            }
        }
    }

    private static final String LABELS_OF_COINS =
            "Each WIRE's LABEL for 1 is that for 0 xor DELTA; a LABEL's COLOUR is the "
            + "lowest bit of its last byte.";

    /** Labels of zeros, of ones, and of the bits that fall off when they are doubled, in both colours. */
    @Sentence(promise = 12, says = LABELS_OF_COINS)
    static void garbleOfLabelsOfAllColours(Due due) {
        String[] heads = {"00", "40", "80", "ff"};
        for (int way = 0; way < 3; way++) {
            for (char sign : "&|/%#".toCharArray()) {
                for (int colours = 0; colours < 4; colours++) {
                    byte[] coins = new byte[64];
                    System.arraycopy(Bench.hex(heads[colours]), 0, coins, 16, 1);
                    System.arraycopy(Bench.hex(heads[3 - colours]), 0, coins, 32, 1);
                    coins[0] = (byte) (colours == 3 ? 0xff : 0);
                    coins[31] = (byte) (colours >> 1);
                    coins[47] = (byte) (0xfe | colours & 1);
                    sameAsTheModel(due, "2;" + sign + "0 1;>2", way, coins);
                    sameAsTheModel(due, "2;" + sign + "1 1;>2", way, coins);
                }
            }
        }
    }

    private static void sameAsTheModel(Due due, String text, int way, byte[] coins) {
        GarbledWires x = new GarbledWires();
        Model m = new Model();
        for (char c : text.toCharArray()) {
            x.feed(c, 1);
            m.feed(c, 1);
        }
        x.circuit();
        m.circuit();
        for (byte b : coins) {
            x.feed(b, 1);
            m.feed(b, 1);
        }
        String call = text + " by way " + way;
        due.is(call, x.garble(0, way, 0), m.garble(0, way, 0));
        for (int i = 0; i < 16; i++) {
            due.is(call + ", delta", x.label(0, -1, 0, i), m.label(0, -1, 0, i));
            for (int wire = 0; wire < 3; wire++) {
                due.is(call + ", label for 0", x.label(0, wire, 0, i), m.label(0, wire, 0, i));
                due.is(call + ", label for 1", x.label(0, wire, 1, i), m.label(0, wire, 1, i));
            }
            for (int r = 0; r < 4; r++) {
                due.is(call + ", row " + r, x.row(0, 0, r, i), m.row(0, 0, r, i));
            }
        }
        due.is(call + ", it agrees", x.agrees(0, 0, 4), 1);
    }

    @Sentence(promise = 12, says =
            "what ROW 0 would be of is the LABEL of that truth itself: it is that HASH " + NOT_STORED)
    static void rowZeroOfThreeWouldBeZero(Due due) {
        for (long seed = 0; seed < 8; seed++) {
            GarbledWires x = Bench.garbled(AND, 1, 0, seed);
            int a = Bench.colour(Bench.labelOf(x, 0, 0, 0));
            int b = Bench.colour(Bench.labelOf(x, 0, 1, 0));
            byte[] hash = Bench.hash(ZEROS, Bench.labelOf(x, 0, 0, a), Bench.labelOf(x, 0, 1, b), 0);
            due.sameBytes("the label of row 0's truth", Bench.labelOf(x, 0, 2, a & b), hash);
            x.encode(0, a | b << 1);
            x.workOut(0);
            due.sameBytes("worked out it is the hash itself", Bench.activeOf(x, 0, 2), hash);
        }
    }

    @Sentence(promise = 12, says = USED_UP)
    static void garbleUsesTheTapeUp(Due due) {
        GarbledWires x = new GarbledWires();
        Bench.circuit(x, "1;>0");
        int[][] calls = {{0, 0, 0}, {1, 0, 0}, {-1, 0, 0}, {0, 3, 0}, {0, -1, 0}, {0, 0, 5}, {0, 0, -1}};
        for (int[] c : calls) {
            for (int length : new int[] {31, 50}) {
                Bench.feed(x, new byte[length]);
                x.garble(c[0], c[1], c[2]);
                due.is("count(0) behind garble(" + c[0] + ", " + c[1] + ", " + c[2] + ")", x.count(0), 0);
            }
        }
        due.is("count(2)", x.count(2), 1);
        for (int g = 1; g < 7; g++) {
            Bench.feed(x, new byte[50]);
            x.garble(0, 0, 0);
            due.is("count(0) behind number " + g + ", the last of these FULL", x.count(0), 0);
        }
    }

    @Sentence(promise = 12, says = NOTHING_CHANGES)
    static void garbleRefusedChangesNothing(Due due) {
        for (int way = 0; way < 3; way++) {
            GarbledWires x = busy(way);
            String before = Bench.traces(x);
            int[][] calls = {{0, way, 0}, {1, 0, 0}, {0, 3, 0}, {0, 0, 5}};
            for (int[] c : calls) {
                Bench.feed(x, new byte[47]);
                due.holds("it is refused", x.garble(c[0], c[1], c[2]) < 0);
                due.holds("all is as before garble(" + c[0] + ", " + c[1] + ", " + c[2] + ")",
                        before.equals(Bench.traces(x)));
            }
        }
    }

    @Sentence(promise = 12, says = NOTHING_CHANGES)
    static void garbleFullChangesNothing(Due due) {
        GarbledWires x = new GarbledWires();
        Bench.circuit(x, AND);
        for (int g = 0; g < 6; g++) {
            Bench.feedCoins(x, 4, g);
            x.garble(0, g % 3, g % 5);
        }
        int blocks = x.count(3);
        Bench.feedCoins(x, 4, 99);
        x.garble(0, 2, 4);
        due.is("count(2)", x.count(2), 6);
        due.is("count(3)", x.count(3), blocks);
        for (int g = 0; g < 6; g++) {
            due.is("told(" + g + ", 1)", x.told(g, 1), g % 3);
            due.is("told(" + g + ", 2)", x.told(g, 2), g % 5);
            due.is("agrees(" + g + ", 0, 4)", x.agrees(g, 0, 4), 1);
        }
    }

    // ---- promise 13

    private static final String TOLD =
            "Of a GARBLED one: 0 its CIRCUIT, 1 WAY, 2 KIND, 3 ROWS that are stored, 4 how often "
            + "BLOCKS were made to garble it, 5 WIRES of its RUN that have a LABEL, 6 BLOCKS made for the latest "
            + "workOut() (0).";

    @Sentence(promise = 13, says = TOLD)
    static void toldOfNoTabledGatesAndOfForty(Due due) {
        String[] texts = {"1;>0", "1;!0;^0 1;>2", Bench.biggestText()};
        int[] tabled = {0, 0, 40};
        int[] wires = {1, 3, 56};
        for (int c = 0; c < texts.length; c++) {
            for (int way = 0; way < 3; way++) {
                GarbledWires x = Bench.garbled(texts[c], way, 0, 13);
                due.is("rows stored by way " + way, x.told(0, 3), tabled[c] * (4 - way));
                due.is("blocks to garble it", x.told(0, 4), 4 * tabled[c]);
                due.is("labels at first", x.told(0, 5), 0);
                due.is("no workOut()", x.told(0, 6), 0);
                x.encode(0, 0);
                x.workOut(0);
                due.is("labels of all wires", x.told(0, 5), wires[c]);
                due.is("blocks of workOut()", x.told(0, 6), tabled[c] * (way == 2 ? 2 : 1));
            }
        }
    }

    @Sentence(promise = 13, says = TOLD)
    static void toldOfEachOneAlone(Due due) {
        GarbledWires x = new GarbledWires();
        Bench.circuit(x, "1;>0");
        Bench.circuit(x, AND);
        int[][] want = {{1, 0, 0, 4, 4}, {0, 1, 1, 0, 0}, {1, 1, 2, 3, 4}, {0, 2, 3, 0, 0}, {1, 2, 4, 2, 4},
            {1, 0, 4, 4, 4}};
        for (int g = 0; g < 6; g++) {
            Bench.feedCoins(x, 4, g);
            x.garble(want[g][0], want[g][1], want[g][2]);
            x.encode(g, g);
            x.workOut(g);
        }
        for (int g = 0; g < 6; g++) {
            for (int what = 0; what < 5; what++) {
                due.is("told(" + g + ", " + what + ")", x.told(g, what), want[g][what]);
            }
            int blocks = want[g][1] == 2 ? 2 : 1;
            due.is("told(" + g + ", 5)", x.told(g, 5), want[g][0] == 0 ? 1 : 3);
            due.is("told(" + g + ", 6)", x.told(g, 6), want[g][0] == 0 ? 0 : blocks);
        }
    }

    @Sentence(promise = 13, says = TOLD)
    static void toldOfARunFromEmptyToFull(Due due) {
        GarbledWires x = Bench.garbled("16;&0 15;>16", 2, 0, 13);
        for (int k = 0; k < 16; k++) {
            due.is("labels", x.told(0, 5), k);
            due.is("workOut(0)", x.workOut(0), Bench.NULL);
            x.choose(0, k, 1);
        }
        due.is("labels of the inputs", x.told(0, 5), 16);
        due.is("no workOut() but refused ones", x.told(0, 6), 0);
        x.workOut(0);
        due.is("labels of all", x.told(0, 5), 17);
        x.workOut(0);
        due.is("labels of all, once more", x.told(0, 5), 17);
        due.is("blocks of the latest alone", x.told(0, 6), 2);
        for (int k = 0; k < 16; k++) {
            x.lay(0, k, -1);
            due.is("labels left", x.told(0, 5), 15 - k);
        }
    }

    @Sentence(promise = 13, says = "BAD.")
    static void toldOfNoSuchThing(Due due) {
        GarbledWires x = Bench.garbled("1;>0", 0, 0, 13);
        for (int what : Bench.outside(0, 6)) {
            due.is("told(0, " + what + ")", x.told(0, what), Bench.BAD);
        }
        for (int g : Bench.outside(0, 0)) {
            due.is("told(" + g + ", 0)", x.told(g, 0), Bench.BAD);
        }
        for (int g = 1; g < 6; g++) {
            due.is("told(" + g + ", 0) ahead of it", x.told(g, 0), Bench.BAD);
            Bench.feedCoins(x, 2, g);
            x.garble(0, 0, 0);
            due.is("told(" + g + ", 0)", x.told(g, 0), 0);
        }
    }

    @Sentence(promise = 13, says = NOTHING_CHANGES)
    static void refusedQuestionsOfGarbledOnesChangeNothing(Due due) {
        GarbledWires x = busy(1);
        x.feed(1, 5);
        String before = Bench.traces(x);
        due.is("told(0, 7)", x.told(0, 7), Bench.BAD);
        due.is("label(0, 4, 0, 0)", x.label(0, 4, 0, 0), Bench.BAD);
        due.is("row(0, 0, 4, 0)", x.row(0, 0, 4, 0), Bench.BAD);
        due.is("row(0, 0, 0, 0), which is not stored", x.row(0, 0, 0, 0), Bench.NONE);
        due.is("spoil(0, 0, 0, 0, 1), which is not stored", x.spoil(0, 0, 0, 0, 1), Bench.BAD);
        due.is("count(4)", x.count(4), Bench.BAD);
        due.is("result(16)", x.result(16), Bench.BAD);
        due.holds("all is as before", before.equals(Bench.traces(x)));
        due.is("count(0), for they do not read the tape", x.count(0), 5);
    }

    // ---- promise 14

    @Sentence(promise = 14, says =
            "Byte i (0 .. 15) of a WIRE's LABEL for a truth; wire = -1: of DELTA (truth is not looked "
            + "at).")
    static void labelOfTheFirstAndTheLastWire(Due due) {
        GarbledWires x = new GarbledWires();
        Bench.circuit(x, Bench.biggestText());
        byte[] coins = Bench.coins(57, 14);
        coins[15] |= 1;
        Bench.feed(x, coins);
        x.garble(0, 0, 0);
        for (int i = 0; i < 16; i++) {
            int delta = coins[i] & 255;
            for (int truth : new int[] {0, 1, 2, -1, Integer.MIN_VALUE, Integer.MAX_VALUE}) {
                due.is("label(0, -1, " + truth + ", " + i + ")", x.label(0, -1, truth, i), delta);
            }
            due.is("label(0, 0, 0, " + i + ")", x.label(0, 0, 0, i), coins[16 + i] & 255);
            due.is("label(0, 0, 1, " + i + ")", x.label(0, 0, 1, i), coins[16 + i] & 255 ^ delta);
            due.is("label(0, 55, 0, " + i + ")", x.label(0, 55, 0, i), coins[16 * 56 + i] & 255);
            due.is("label(0, 55, 1, " + i + ")", x.label(0, 55, 1, i), coins[16 * 56 + i] & 255 ^ delta);
        }
    }

    @Sentence(promise = 14, says = "BAD.")
    static void labelOfNoSuchThing(Due due) {
        GarbledWires x = Bench.garbled(AND, 0, 0, 14);
        GarbledWires biggest = Bench.garbled(Bench.biggestText(), 0, 0, 14);
        for (int i : Bench.outside(0, 15)) {
            due.is("label(0, 0, 0, " + i + ")", x.label(0, 0, 0, i), Bench.BAD);
            due.is("label(0, 2, 1, " + i + ")", x.label(0, 2, 1, i), Bench.BAD);
            due.is("label(0, -1, 0, " + i + ")", x.label(0, -1, 0, i), Bench.BAD);
        }
        for (int wire : Bench.outside(-1, 2)) {
            due.is("label(0, " + wire + ", 0, 0)", x.label(0, wire, 0, 0), Bench.BAD);
        }
        for (int wire : Bench.outside(-1, 55)) {
            due.is("label(0, " + wire + ", 0, 0) of 56", biggest.label(0, wire, 0, 0), Bench.BAD);
        }
        for (int truth : Bench.outside(0, 1)) {
            due.is("label(0, 0, " + truth + ", 0)", x.label(0, 0, truth, 0), Bench.BAD);
        }
        for (int g : Bench.outside(0, 0)) {
            due.is("label(" + g + ", 0, 0, 0)", x.label(g, 0, 0, 0), Bench.BAD);
            due.is("label(" + g + ", -1, 0, 0)", x.label(g, -1, 0, 0), Bench.BAD);
        }
    }

    // ---- promise 15

    private static final boolean[][] STORED = {{true, true, true, true}, {false, true, true, true},
        {true, true, false, false}};

    @Sentence(promise = 15, says = "Byte i of ROW r of TABLED GATE t; NONE: it is not stored.")
    static void rowsThatAreStoredOrNot(Due due) {
        for (int way = 0; way < 3; way++) {
            GarbledWires x = Bench.garbled(Bench.biggestText(), way, 0, 15);
            for (int t : new int[] {0, 39}) {
                for (int r = 0; r < 4; r++) {
                    int first = x.row(0, t, r, 0);
                    int last = x.row(0, t, r, 15);
                    String call = "row(0, " + t + ", " + r + ", i) of way " + way + ": " + first + " " + last;
                    due.holds(call, STORED[way][r] ? isByte(first) && isByte(last)
                            : first == Bench.NONE && last == Bench.NONE);
                }
            }
        }
    }

    private static boolean isByte(int b) {
        return b >= 0 && b <= 255;
    }

    @Sentence(promise = 15, says = "BAD: also r not 0 .. 3.")
    static void rowsThatAreNotThere(Due due) {
        for (int way = 0; way < 3; way++) {
            GarbledWires x = Bench.garbled("2;&0 1;!2;|0 1;>4", way, 0, 15);
            for (int r : Bench.outside(0, 3)) {
                due.is("row(0, 0, " + r + ", 0)", x.row(0, 0, r, 0), Bench.BAD);
                due.is("row(0, 1, " + r + ", 0)", x.row(0, 1, r, 0), Bench.BAD);
            }
            for (int t : Bench.outside(0, 1)) {
                due.is("row(0, " + t + ", 1, 0)", x.row(0, t, 1, 0), Bench.BAD);
            }
            for (int i : Bench.outside(0, 15)) {
                due.is("row(0, 0, 1, " + i + ")", x.row(0, 0, 1, i), Bench.BAD);
            }
            for (int g : Bench.outside(0, 0)) {
                due.is("row(" + g + ", 0, 1, 0)", x.row(g, 0, 1, 0), Bench.BAD);
            }
            GarbledWires none = Bench.garbled("1;!0;^0 1;>2", way, 0, 15);
            due.is("row(0, 0, 1, 0) of no tabled gates", none.row(0, 0, 1, 0), Bench.BAD);
            GarbledWires biggest = Bench.garbled(Bench.biggestText(), way, 0, 15);
            due.is("row(0, 40, 1, 0) of 40", biggest.row(0, 40, 1, 0), Bench.BAD);
        }
    }

    @Sentence(promise = 15, says = "BAD: also r not 0 .. 3.")
    static void rowsAreBadAheadOfNone(Due due) {
        for (int way = 1; way < 3; way++) {
            int r = way == 1 ? 0 : 2;
            GarbledWires x = Bench.garbled(AND, way, 0, 15);
            due.is("row(0, 0, " + r + ", 15)", x.row(0, 0, r, 15), Bench.NONE);
            due.is("row(0, 0, " + r + ", 16)", x.row(0, 0, r, 16), Bench.BAD);
            due.is("row(0, 0, " + r + ", -1)", x.row(0, 0, r, -1), Bench.BAD);
            due.is("row(0, 1, " + r + ", 0)", x.row(0, 1, r, 0), Bench.BAD);
            due.is("row(1, 0, " + r + ", 0)", x.row(1, 0, r, 0), Bench.BAD);
        }
    }

    // ---- promise 16

    private static final String SPOIL =
            "Byte i of a ROW that is stored is xored with a mask's lowest byte: what it is then.";

    @Sentence(promise = 16, says = SPOIL)
    static void spoilByTheLowestByteAlone(Due due) {
        GarbledWires x = Bench.garbled(AND, 0, 0, 16);
        int[] masks = {0, 1, 0x80, 0xff, 0x100, 0x180, -1, -256, Integer.MIN_VALUE, Integer.MAX_VALUE, 0x7fffff00};
        for (int i : new int[] {0, 7, 8, 15}) {
            for (int mask : masks) {
                int want = x.row(0, 0, 3, i) ^ mask & 255;
                due.is("spoil(0, 0, 3, " + i + ", " + mask + ")", x.spoil(0, 0, 3, i, mask), want);
                due.is("row(0, 0, 3, " + i + ")", x.row(0, 0, 3, i), want);
            }
        }
    }

    @Sentence(promise = 16, says = SPOIL)
    static void spoilTheFirstAndTheLastByteAlone(Due due) {
        for (int way = 0; way < 3; way++) {
            GarbledWires x = Bench.garbled(Bench.biggestText(), way, 0, 16);
            for (int i : new int[] {0, 15}) {
                byte[] want = Bench.rowOf(x, 0, 39, 1);
                want[i] ^= (byte) 0x81;
                byte[] ahead = Bench.rowOf(x, 0, 38, 1);
                due.is("spoil(0, 39, 1, " + i + ", 129)", x.spoil(0, 39, 1, i, 0x81), want[i] & 255);
                due.sameBytes("the other bytes stay", Bench.rowOf(x, 0, 39, 1), want);
                due.sameBytes("the row of the gate ahead stays", Bench.rowOf(x, 0, 38, 1), ahead);
            }
            int first = x.row(0, 0, 1, 0);
            x.spoil(0, 0, 1, 0, 0x81);
            due.is("twice is not at all", x.spoil(0, 0, 1, 0, 0x81), first);
        }
    }

    @Sentence(promise = 16, says = SPOIL)
    static void spoilOneOfTwoOfTheSameCircuit(Due due) {
        GarbledWires x = Bench.garbled(AND, 0, 0, 16);
        Bench.feedCoins(x, 4, 16);
        x.garble(0, 0, 0);
        int before = x.row(1, 0, 0, 0);
        due.is("spoil(0, 0, 0, 0, 1)", x.spoil(0, 0, 0, 0, 1), before ^ 1);
        due.is("row(1, 0, 0, 0)", x.row(1, 0, 0, 0), before);
        due.is("agrees(0, 0, 4)", x.agrees(0, 0, 4), 0);
        due.is("agrees(1, 0, 4)", x.agrees(1, 0, 4), 1);
    }

    @Sentence(promise = 16, says = "BAD: also one that is not stored.")
    static void spoilWhatIsNotStored(Due due) {
        for (int way = 0; way < 3; way++) {
            GarbledWires x = Bench.garbled("2;&0 1;|0 1;>3", way, 0, 16);
            for (int t = 0; t < 2; t++) {
                for (int r = 0; r < 4; r++) {
                    int want = STORED[way][r] ? x.row(0, t, r, 3) ^ 5 : Bench.BAD;
                    due.is("spoil(0, " + t + ", " + r + ", 3, 5) of way " + way, x.spoil(0, t, r, 3, 5), want);
                }
            }
        }
    }

    /** Who takes ROW 0 of THREE takes zeros, whatever was tried on it. */
    @Sentence(promise = 16, says = NOT_STORED)
    static void spoilDoesNothingToWhatIsNotStored(Due due) {
        GarbledWires three = Bench.garbled(AND, 1, 0, 16);
        due.is("spoil(0, 0, 0, 0, 255) of THREE", three.spoil(0, 0, 0, 0, 255), Bench.BAD);
        due.is("row(0, 0, 0, 0) of THREE", three.row(0, 0, 0, 0), Bench.NONE);
        due.is("agrees(0, 0, 4) of THREE", three.agrees(0, 0, 4), 1);
        GarbledWires halves = Bench.garbled("2;&0 1;|0 1;>2 3", 2, 0, 16);
        for (int r = 2; r < 4; r++) {
            due.is("spoil(0, 0, " + r + ", 0, 255) of HALVES", halves.spoil(0, 0, r, 0, 255), Bench.BAD);
            due.is("row(0, 0, " + r + ", 0) of HALVES", halves.row(0, 0, r, 0), Bench.NONE);
        }
        due.is("agrees(0, 0, 4) of HALVES", halves.agrees(0, 0, 4), 1);
    }

    @Sentence(promise = 16, says = "BAD: also one that is not stored.")
    static void spoilWhatIsNotThere(Due due) {
        GarbledWires x = Bench.garbled("2;&0 1;!2;|0 1;>4", 0, 0, 16);
        for (int r : Bench.outside(0, 3)) {
            due.is("spoil(0, 0, " + r + ", 0, 1)", x.spoil(0, 0, r, 0, 1), Bench.BAD);
        }
        for (int t : Bench.outside(0, 1)) {
            due.is("spoil(0, " + t + ", 1, 0, 1)", x.spoil(0, t, 1, 0, 1), Bench.BAD);
        }
        for (int i : Bench.outside(0, 15)) {
            due.is("spoil(0, 0, 1, " + i + ", 1)", x.spoil(0, 0, 1, i, 1), Bench.BAD);
        }
        for (int g : Bench.outside(0, 0)) {
            due.is("spoil(" + g + ", 0, 1, 0, 1)", x.spoil(g, 0, 1, 0, 1), Bench.BAD);
        }
        due.is("agrees(0, 0, 4)", x.agrees(0, 0, 4), 1);
        GarbledWires none = Bench.garbled("1;!0;>1", 0, 0, 16);
        due.is("spoil(0, 0, 0, 0, 1) of no tabled gates", none.spoil(0, 0, 0, 0, 1), Bench.BAD);
    }

    @Sentence(promise = 16, says = NOTHING_CHANGES)
    static void spoilRefusedChangesNothing(Due due) {
        for (int way = 0; way < 3; way++) {
            GarbledWires x = busy(way);
            String before = Bench.traces(x);
            int[][] calls = {{1, 0, 1, 0}, {0, 1, 1, 0}, {0, 0, 4, 0}, {0, 0, -1, 0}, {0, 0, 1, 16}, {0, 0, 1, -1}};
            for (int[] c : calls) {
                due.is("spoil", x.spoil(c[0], c[1], c[2], c[3], 255), Bench.BAD);
            }
            due.holds("all is as before", before.equals(Bench.traces(x)));
        }
    }
}
