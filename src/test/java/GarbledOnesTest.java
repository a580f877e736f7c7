/** Promises 12 to 16: the labels and the rows of each way, what is told of them, and rows that are spoilt. */
public final class GarbledOnesTest {
    private static final Due due = new Due();
    private static final String TABLED = "&|/%#";
    private static final int[][] TRUTHS = {{0, 0, 0, 1}, {0, 1, 1, 1}, {0, 0, 1, 0}, {1, 1, 1, 0}, {1, 0, 0, 0}};
    private static final int[][] FGH = {{0, 0, 0}, {1, 1, 1}, {0, 1, 0}, {0, 0, 1}, {1, 1, 0}};
    /** All signs, gates of gates, and one of the same wire twice. */
    private static final String MIXED = "3;&0 1;^3 2;!4;|5 0;/6 3;%1 7;#8 8;^9 5;>10 9 8 7";

    public static void main(String[] args) {
        promise12Numbers();
        promise12Coins();
        promise12FreeGates();
        promise12Four();
        promise12Three();
        promise12Halves();
        promise12AllWaysAgree();
        promise12Most();
        promise12Short();
        promise12Refused();
        promise13Told();
        promise13ToldOfRuns();
        promise14Label();
        promise15Row();
        promise16Spoil();
        due.end();
    }

    private static GarbledWires garbled(String text, int way, long seed) {
        GarbledWires x = new GarbledWires();
        Bench.feed(x, key(seed));
        x.key();
        Bench.circuit(x, text);
        Bench.feedCoins(x, coinsFor(x, way), seed);
        due.is("12: garble(0, " + way + ", 0)", x.garble(0, way, 0), 0);
        return x;
    }

    private static int coinsFor(GarbledWires x, int way) {
        return 1 + x.about(0, 0) + (way == 0 ? x.about(0, 3) : 0);
    }

    private static byte[] key(long seed) {
        return Bench.coins(1, seed + 1000);
    }

    private static byte[] coin(byte[] coins, int n) {
        return java.util.Arrays.copyOfRange(coins, 16 * n, 16 * n + 16);
    }

    private static void promise12Numbers() {
        GarbledWires x = new GarbledWires();
        Bench.circuit(x, "1;>0");
        Bench.circuit(x, "2;>0");
        for (int g = 0; g < 6; g++) {
            Bench.feedCoins(x, 4, g);
            due.is("12: the number", x.garble(g % 2, g % 3, g % 5), g);
            due.is("12: the tape is used up, with what is left over", x.count(0), 0);
        }
        for (int g = 0; g < 6; g++) {
            due.is("12: its circuit", x.told(g, 0), g % 2);
            due.is("12: its label", x.label(g, 0, 0, 3), coin(Bench.coins(4, g), 1)[3] & 255);
        }
        Bench.feedCoins(x, 4, 9);
        due.is("12: a seventh", x.garble(0, 0, 0), Bench.FULL);
        due.is("12: FULL uses the tape up", x.count(0), 0);
        due.is("12: FULL is told ahead of SHORT", x.garble(0, 0, 0), Bench.FULL);
        due.is("12: BAD is told ahead of FULL", x.garble(2, 0, 0), Bench.BAD);
        due.is("12: six", x.count(2), 6);
        due.is("12: there is none behind the last", x.told(6, 0), Bench.BAD);
    }

    private static void promise12Coins() {
        for (int way = 0; way < 3; way++) {
            for (int last = 0; last < 2; last++) {
                GarbledWires x = new GarbledWires();
                Bench.circuit(x, "2;&0 1;!2;|3 0;>4");
                byte[] coins = Bench.coins(coinsFor(x, way), 12);
                coins[15] = (byte) (coins[15] & 254 | last);
                Bench.feed(x, coins);
                x.garble(0, way, 0);
                byte[] delta = coin(coins, 0);
                delta[15] |= 1;
                due.sameBytes("12: delta", Bench.labelOf(x, 0, -1, 0), delta);
                due.sameBytes("12: input 0", Bench.labelOf(x, 0, 0, 0), coin(coins, 1));
                due.sameBytes("12: input 1", Bench.labelOf(x, 0, 1, 0), coin(coins, 2));
                if (way == 0) {
                    due.sameBytes("12: the first tabled gate", Bench.labelOf(x, 0, 2, 0), coin(coins, 3));
                    due.sameBytes("12: the second tabled gate", Bench.labelOf(x, 0, 4, 0), coin(coins, 4));
                }
                for (int wire = 0; wire < 5; wire++) {
                    due.sameBytes("12: for 1", Bench.labelOf(x, 0, wire, 1),
                            Bench.xor(Bench.labelOf(x, 0, wire, 0), delta));
                }
            }
        }
    }

    private static void promise12FreeGates() {
        for (int way = 0; way < 3; way++) {
            GarbledWires x = garbled("2;^0 1;!2;^3 3;>4", way, 120 + way);
            due.sameBytes("12: ^", Bench.labelOf(x, 0, 2, 0),
                    Bench.xor(Bench.labelOf(x, 0, 0, 0), Bench.labelOf(x, 0, 1, 0)));
            due.sameBytes("12: !", Bench.labelOf(x, 0, 3, 0), Bench.labelOf(x, 0, 2, 1));
            due.sameBytes("12: ! for 1", Bench.labelOf(x, 0, 3, 1), Bench.labelOf(x, 0, 2, 0));
            due.sameBytes("12: ^ of one twice", Bench.labelOf(x, 0, 4, 0), new byte[16]);
            due.is("12: no blocks", x.count(3), 0);
            due.is("12: no rows", x.told(0, 3), 0);
        }
    }

    /** What an object tells of a tabled gate, read once, for an object is used for 512 calls at most. */
    private static final class GateRead {
        final int t;
        final int sign;
        final byte[] key;
        final byte[] delta;
        final byte[][] a;
        final byte[][] b;
        final byte[][] made;
        final byte[][] rows = new byte[4][];

        GateRead(int way, long seed, int t) {
            GarbledWires x = garbled("2;&0 1;|2 1;/0 3;%4 1;#5 3;&6 6;>7", way, seed);
            this.t = t;
            this.key = GarbledOnesTest.key(seed);
            sign = TABLED.indexOf(x.gate(0, t, 0));
            delta = Bench.labelOf(x, 0, -1, 0);
            a = bothLabels(x, x.gate(0, t, 1));
            b = bothLabels(x, x.gate(0, t, 2));
            made = bothLabels(x, 2 + t);
            for (int r = 0; r < 4; r++) {
                rows[r] = Bench.rowOf(x, 0, t, r);
            }
        }

        private static byte[][] bothLabels(GarbledWires x, int wire) {
            return new byte[][] {Bench.labelOf(x, 0, wire, 0), Bench.labelOf(x, 0, wire, 1)};
        }

        private static int truthOf(byte[][] labels, int colour) {
            return Bench.colour(labels[0]) == colour ? 0 : 1;
        }

        byte[] hashOfColours(int r) {
            return Bench.hash(key, a[truthOf(a, r / 2)], b[truthOf(b, r % 2)], t);
        }

        byte[] madeOfColours(int r) {
            return made[TRUTHS[sign][2 * truthOf(a, r / 2) + truthOf(b, r % 2)]];
        }
    }

    private static void promise12Four() {
        for (int n = 0; n < 48; n++) {
            GateRead gate = new GateRead(0, n / 6, n % 6);
            for (int r = 0; r < 4; r++) {
                due.sameBytes("12: FOUR, gate " + n % 6 + " row " + r, gate.rows[r],
                        Bench.xor(gate.hashOfColours(r), gate.madeOfColours(r)));
            }
        }
    }

    private static void promise12Three() {
        for (int n = 0; n < 48; n++) {
            GateRead gate = new GateRead(1, n / 6, n % 6);
            due.sameBytes("12: THREE, what gate " + n % 6 + " makes", gate.madeOfColours(0), gate.hashOfColours(0));
            for (int r = 1; r < 4; r++) {
                due.sameBytes("12: THREE, gate " + n % 6 + " row " + r, gate.rows[r],
                        Bench.xor(gate.hashOfColours(r), gate.madeOfColours(r)));
            }
        }
    }

    private static void promise12Halves() {
        for (int n = 0; n < 48; n++) {
            halvesGate(new GateRead(2, n / 6, n % 6));
        }
    }

    private static void halvesGate(GateRead gate) {
        int[] fgh = FGH[gate.sign];
        int t = gate.t;
        byte[] a = gate.a[fgh[0]];
        byte[] b = gate.b[fgh[1]];
        byte[] hashA = Bench.hash(gate.key, a, null, 2 * t);
        byte[] hashB = Bench.hash(gate.key, b, null, 2 * t + 1);
        byte[] row0 = Bench.xor(hashA, Bench.hash(gate.key, gate.a[1 - fgh[0]], null, 2 * t));
        if (Bench.colour(b) == 1) {
            row0 = Bench.xor(row0, gate.delta);
        }
        byte[] row1 = Bench.xor(Bench.xor(hashB, Bench.hash(gate.key, gate.b[1 - fgh[1]], null, 2 * t + 1)), a);
        byte[] made = Bench.xor(hashA, hashB);
        if (Bench.colour(a) == 1) {
            made = Bench.xor(made, row0);
        }
        if (Bench.colour(b) == 1) {
            made = Bench.xor(Bench.xor(made, row1), a);
        }
        due.sameBytes("12: HALVES, gate " + t + " row 0", gate.rows[0], row0);
        due.sameBytes("12: HALVES, gate " + t + " row 1", gate.rows[1], row1);
        due.sameBytes("12: HALVES, what gate " + t + " makes", gate.made[fgh[2]], made);
    }

    private static void promise12AllWaysAgree() {
        for (int way = 0; way < 3; way++) {
            for (long seed = 0; seed < 20; seed++) {
                due.is("12: way " + way + " agrees", garbled(MIXED, way, seed).agrees(0, 0, 8), 1);
            }
        }
    }

    /** 16 inputs and 40 gates, all tabled: the most labels, rows and coins that there can be. */
    private static void promise12Most() {
        for (int way = 0; way < 3; way++) {
            GarbledWires x = garbled(Bench.biggestText(), way, 12);
            due.is("12: it agrees", x.agrees(0, 43690, 43698), 1);
            due.is("12: blocks", x.told(0, 4), 160);
            due.is("12: rows", x.told(0, 3), 40 * (4 - way));
            x.encode(0, 4711);
            due.is("12: gates", x.workOut(0), 40);
            due.is("12: labels", x.told(0, 5), 56);
            due.is("12: the run tells what is due", x.openAll(0), x.plain(0, 4711));
            due.is("12: the last wire's label", x.active(0, 55, 15), x.label(0, 55, x.open(0, 0), 15));
            due.is("12: delta is another thing", x.label(0, -1, 0, 0), Bench.coins(57, 12)[0] & 255);
            due.is("12: the last row", x.row(0, 39, 1, 0), x.spoil(0, 39, 1, 0, 0));
            due.is("12: there is no wire 56", x.label(0, 56, 0, 0), Bench.BAD);
        }
    }

    private static void promise12Short() {
        for (int way = 0; way < 3; way++) {
            GarbledWires x = new GarbledWires();
            Bench.circuit(x, "2;&0 1;^0 1;|0 2;>2");
            int need = 16 * coinsFor(x, way);
            Bench.feed(x, new byte[need - 1]);
            due.is("12: a byte too few", x.garble(0, way, 0), Bench.SHORT);
            due.is("12: SHORT uses the tape up", x.count(0), 0);
            due.is("12: none is there", x.count(2), 0);
            due.is("12: no blocks", x.count(3), 0);
            due.is("12: an empty tape", x.garble(0, way, 0), Bench.SHORT);
            Bench.feed(x, new byte[need]);
            due.is("12: just enough", x.garble(0, way, 0), 0);
        }
    }

    private static void promise12Refused() {
        GarbledWires x = new GarbledWires();
        Bench.circuit(x, "1;>0");
        int[][] wrong = {{1, 0, 0}, {-1, 0, 0}, {0, -1, 0}, {0, 3, 0}, {0, 0, -1}, {0, 0, 5},
            {Integer.MAX_VALUE, 0, 0}, {0, Integer.MIN_VALUE, 0}, {0, 0, Integer.MAX_VALUE}};
        for (int[] w : wrong) {
            String call = "12: garble(" + w[0] + ", " + w[1] + ", " + w[2] + ")";
            Bench.feedCoins(x, 2, 1);
            due.is(call, x.garble(w[0], w[1], w[2]), Bench.BAD);
            due.is("12: BAD uses the tape up", x.count(0), 0);
            due.is(call + ", ahead of SHORT", x.garble(w[0], w[1], w[2]), Bench.BAD);
        }
        due.is("12: none is there", x.count(2), 0);
        Bench.feedCoins(x, 2, 1);
        due.is("12: key() is free still", x.key(), 1);
    }

    private static void promise13Told() {
        GarbledWires x = new GarbledWires();
        Bench.circuit(x, "1;>0");
        Bench.circuit(x, "2;&0 1;^0 1;|0 2;/2 3;>2");
        int[][] want = {{1, 0, 4, 12, 12}, {1, 1, 3, 9, 12}, {1, 2, 1, 6, 12}, {0, 2, 2, 0, 0}};
        for (int g = 0; g < 4; g++) {
            Bench.feedCoins(x, 6, g);
            x.garble(want[g][0], want[g][1], want[g][2]);
        }
        for (int g = 0; g < 4; g++) {
            for (int what = 0; what < 5; what++) {
                due.is("13: told(" + g + ", " + what + ")", x.told(g, what), want[g][what]);
            }
            due.is("13: no labels yet", x.told(g, 5), 0);
            due.is("13: no workOut yet", x.told(g, 6), 0);
        }
        int[][] wrong = {{-1, 0}, {4, 0}, {0, -1}, {0, 7}, {Integer.MAX_VALUE, 0}, {0, Integer.MIN_VALUE}};
        for (int[] w : wrong) {
            due.is("13: told(" + w[0] + ", " + w[1] + ")", x.told(w[0], w[1]), Bench.BAD);
        }
    }

    private static void promise13ToldOfRuns() {
        for (int way = 0; way < 3; way++) {
            GarbledWires x = garbled("3;&0 1;^0 3;|0 2;>5", way, 13);
            x.choose(0, 2, 1);
            due.is("13: one label", x.told(0, 5), 1);
            x.workOut(0);
            due.is("13: a refused workOut changes nothing", x.told(0, 6), 0);
            x.encode(0, 5);
            due.is("13: the inputs' labels", x.told(0, 5), 3);
            x.workOut(0);
            due.is("13: all labels", x.told(0, 5), 6);
            due.is("13: blocks to work it out", x.told(0, 6), way == 2 ? 4 : 2);
            x.workOut(0);
            due.is("13: the latest workOut alone", x.told(0, 6), way == 2 ? 4 : 2);
            x.lay(0, 1, -1);
            due.is("13: one has none", x.told(0, 5), 2);
            due.is("13: the latest workOut is told still", x.told(0, 6), way == 2 ? 4 : 2);
            due.is("13: blocks to garble it", x.told(0, 4), 8);
        }
    }

    private static void promise14Label() {
        GarbledWires x = garbled("2;&0 1;>2", 2, 14);
        byte[] coins = Bench.coins(3, 14);
        for (int i = 0; i < 16; i++) {
            due.is("14: a byte of a label", x.label(0, 1, 0, i), coins[32 + i] & 255);
            int delta = (coins[i] | (i == 15 ? 1 : 0)) & 255;
            due.is("14: for 1", x.label(0, 1, 1, i), (coins[32 + i] & 255) ^ delta);
            due.is("14: delta, the truth is not looked at", x.label(0, -1, 77, i), delta);
            due.is("14: delta, the truth is not looked at", x.label(0, -1, Integer.MIN_VALUE, i), delta);
        }
        int[][] wrong = {{1, 0, 0, 0}, {-1, 0, 0, 0}, {0, 3, 0, 0}, {0, -2, 0, 0}, {0, 0, 2, 0}, {0, 0, -1, 0},
            {0, 0, 0, 16}, {0, 0, 0, -1}, {0, -1, 0, 16}, {0, -1, 0, -1}, {0, 56, 0, 0}, {1, -1, 0, 0},
            {0, Integer.MAX_VALUE, 0, 0}, {0, Integer.MIN_VALUE, 0, 0}, {0, 0, 0, Integer.MAX_VALUE}};
        for (int[] w : wrong) {
            due.is("14: label(" + w[0] + ", " + w[1] + ", " + w[2] + ", " + w[3] + ")",
                    x.label(w[0], w[1], w[2], w[3]), Bench.BAD);
        }
    }

    private static void promise15Row() {
        boolean[][] stored = {{true, true, true, true}, {false, true, true, true}, {true, true, false, false}};
        for (int way = 0; way < 3; way++) {
            GarbledWires x = garbled("2;&0 1;!2;|0 1;>4", way, 15);
            for (int t = 0; t < 2; t++) {
                for (int r = 0; r < 4; r++) {
                    int got = x.row(0, t, r, 15);
                    due.holds("15: way " + way + " row " + r + " is stored or not",
                            stored[way][r] ? got >= 0 && got <= 255 : got == Bench.NONE);
                    due.is("15: BAD is told ahead of NONE", x.row(0, t, r, 16), Bench.BAD);
                }
            }
            int[][] wrong = {{1, 0, 1, 0}, {-1, 0, 1, 0}, {0, 2, 1, 0}, {0, -1, 1, 0}, {0, 0, 4, 0}, {0, 0, -1, 0},
                {0, 0, 1, -1}, {0, 0, 1, 16}, {0, 40, 1, 0}, {0, Integer.MAX_VALUE, 1, 0},
                {0, 0, Integer.MIN_VALUE, 0}, {0, 0, 1, Integer.MAX_VALUE}};
            for (int[] w : wrong) {
                due.is("15: row(" + w[0] + ", " + w[1] + ", " + w[2] + ", " + w[3] + ")",
                        x.row(w[0], w[1], w[2], w[3]), Bench.BAD);
            }
        }
        GarbledWires x = garbled("2;^0 1;>2", 0, 15);
        due.is("15: no tabled gates", x.row(0, 0, 0, 0), Bench.BAD);
    }

    private static void promise16Spoil() {
        for (int way = 0; way < 3; way++) {
            GarbledWires x = garbled("2;&0 1;|0 1;>3", way, 16);
            byte[] label = Bench.labelOf(x, 0, 3, 0);
            for (int i : new int[] {0, 7, 8, 15}) {
                byte[] before = Bench.rowOf(x, 0, 1, 1);
                int want = (before[i] ^ 0x5a) & 255;
                due.is("16: what it is then", x.spoil(0, 1, 1, i, 0x7fffff5a), want);
                before[i] = (byte) want;
                due.sameBytes("16: this byte alone", Bench.rowOf(x, 0, 1, 1), before);
            }
            int before = x.row(0, 1, 1, 7);
            due.is("16: a mask whose lowest byte is 0", x.spoil(0, 1, 1, 7, 256), before);
            due.is("16: a mask of -1", x.spoil(0, 1, 1, 7, -1), before ^ 255);
            due.sameBytes("16: labels stay", Bench.labelOf(x, 0, 3, 0), label);
            spoilRefused(x, way);
        }
        GarbledWires x = garbled("1;!0;>1", 0, 16);
        due.is("16: no tabled gates", x.spoil(0, 0, 0, 0, 1), Bench.BAD);
    }

    private static void spoilRefused(GarbledWires x, int way) {
        for (int r = 0; r < 4; r++) {
            int got = x.spoil(0, 0, r, 3, 0);
            due.is("16: stored or not", got, x.row(0, 0, r, 3) == Bench.NONE ? Bench.BAD : x.row(0, 0, r, 3));
        }
        int[] notStored = {-1, 0, 2};
        due.is("16: a row that is not stored", x.spoil(0, 0, notStored[way], 0, 1), Bench.BAD);
        int[][] wrong = {{1, 0, 1, 0}, {-1, 0, 1, 0}, {0, 2, 1, 0}, {0, -1, 1, 0}, {0, 0, 4, 0}, {0, 0, -1, 0},
            {0, 0, 1, -1}, {0, 0, 1, 16}, {0, Integer.MAX_VALUE, 1, 0}, {0, 0, 1, Integer.MIN_VALUE}};
        for (int[] w : wrong) {
            due.is("16: spoil(" + w[0] + ", " + w[1] + ", " + w[2] + ", " + w[3] + ", 1)",
                    x.spoil(w[0], w[1], w[2], w[3], 1), Bench.BAD);
        }
    }
}
