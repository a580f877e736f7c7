/** Boundary cases of promises 1 to 6: a new object, the tape, the key, the cipher. */
public final class EdgesOfTheTapeTest {
    private static final String USED_UP = "what reads it (whether refused or not) uses it up";
    private static final String NOTHING_CHANGES = "Refused, and nothing changes but THE TAPE";
    private static final byte[] ZEROS = new byte[16];
    private static final byte[] ONES = Bench.hex("ffffffffffffffffffffffffffffffff");

    public static void main(String[] args) {
        Sentences.run(EdgesOfTheTapeTest.class);
    }

    // ---- promise 1

    @Sentence(promise = 1, says = "THE TAPE is empty, THE KEY is 0, nothing else is there.")
    static void newTapeAndKeyAreEmpty(Due due) {
        GarbledWires x = new GarbledWires();
        due.is("clear()", x.clear(), 0);
        for (int what = 0; what < 4; what++) {
            due.is("count(" + what + ")", x.count(what), 0);
            due.is("make(" + what + ", 0)", x.make(what, 0), Bench.SHORT);
        }
        due.is("key()", x.key(), Bench.SHORT);
        due.is("circuit()", x.circuit(), -1000);
        due.is("status()", x.status(), 0);
        due.sameBytes("a block by the key 0", blockOf(x, ZEROS), Bench.hex("66e94bd4ef8a2c3b884cfa59ca342b2e"));
    }

    @Sentence(promise = 1, says = "THE TAPE is empty, THE KEY is 0, nothing else is there.")
    static void newOneHasNoCircuits(Due due) {
        GarbledWires x = new GarbledWires();
        due.is("about(0, 0)", x.about(0, 0), Bench.BAD);
        due.is("gate(0, 0, 0)", x.gate(0, 0, 0), Bench.BAD);
        due.is("output(0, 0)", x.output(0, 0), Bench.BAD);
        due.is("plain(0, 0)", x.plain(0, 0), Bench.BAD);
        due.is("garble(0, 0, 0)", x.garble(0, 0, 0), Bench.BAD);
        due.is("count(2)", x.count(2), 0);
    }

    @Sentence(promise = 1, says = "THE TAPE is empty, THE KEY is 0, nothing else is there.")
    static void newOneHasNothingGarbled(Due due) {
        GarbledWires x = new GarbledWires();
        due.is("told(0, 0)", x.told(0, 0), Bench.BAD);
        due.is("label(0, -1, 0, 0)", x.label(0, -1, 0, 0), Bench.BAD);
        due.is("row(0, 0, 1, 0)", x.row(0, 0, 1, 0), Bench.BAD);
        due.is("spoil(0, 0, 1, 0, 1)", x.spoil(0, 0, 1, 0, 1), Bench.BAD);
        due.is("choose(0, 0, 0)", x.choose(0, 0, 0), Bench.BAD);
        due.is("encode(0, 0)", x.encode(0, 0), Bench.BAD);
        due.is("lay(0, 0, 0)", x.lay(0, 0, 0), Bench.BAD);
        due.is("lay(0, 0, -1)", x.lay(0, 0, -1), Bench.BAD);
        due.is("workOut(0)", x.workOut(0), Bench.BAD);
        due.is("active(0, 0, 0)", x.active(0, 0, 0), Bench.BAD);
        due.is("open(0, 0)", x.open(0, 0), Bench.BAD);
        due.is("openAll(0)", x.openAll(0), Bench.BAD);
        due.is("agrees(0, 0, 0)", x.agrees(0, 0, 0), Bench.BAD);
        due.is("place(0, 0, 0, 0)", x.place(0, 0, 0, 0), 0);
        due.is("status()", x.status(), Bench.BAD);
    }

    @Sentence(promise = 1, says = "THE TAPE is empty, THE KEY is 0, nothing else is there.")
    static void newOneHasNothingOfAnOlderOne(Due due) {
        GarbledWires older = new GarbledWires();
        Bench.feed(older, ONES);
        older.key();
        Bench.circuit(older, "1;>0");
        blockOf(older, ZEROS);
        older.place(0, 0, 0, 0);
        older.feed(1, 8);
        GarbledWires x = new GarbledWires();
        due.is("count(0)", x.count(0), 0);
        due.is("count(1)", x.count(1), 0);
        due.is("count(3)", x.count(3), 0);
        due.is("status()", x.status(), 0);
        due.is("result(0)", x.result(0), 0);
        due.sameBytes("the key", blockOf(x, ZEROS), Bench.block(ZEROS, ZEROS));
        due.is("count(0) of the older one", older.count(0), 8);
    }

    @Sentence(promise = 1, says = "An object is used for at most 512 calls after it has been made")
    static void call512IsAnsweredAsAnyIs(Due due) {
        GarbledWires x = new GarbledWires();
        for (int call = 1; call <= 500; call++) {
            due.is("feed(-1, 8), call " + call, x.feed(-1, 8), 8 * call);
        }
        for (int call = 501; call <= 511; call++) {
            due.is("feed(-1, 1), call " + call, x.feed(-1, 1), Bench.FULL);
        }
        due.is("clear(), call 512", x.clear(), 4000);
        GarbledWires y = new GarbledWires();
        for (int call = 3; call <= 510; call += 3) {
            y.feed(call, 8);
            y.feed(call, 8);
            due.is("make(0, 0), call " + call, y.make(0, 0), 1);
        }
        y.count(0);
        due.is("count(3), call 512", y.count(3), 170);
    }

    // ---- promise 2

    @Sentence(promise = 2, says = "The lowest n bytes (1 .. 8) of v come behind THE TAPE, the highest of these first: "
            + "how many it has.")
    static void feedOneToEightBytes(Due due) {
        long[] values = {0x8182838485868788L, Long.MIN_VALUE, Long.MAX_VALUE, -1L, 0xff00ff00ff00ff00L};
        for (long v : values) {
            for (int n = 1; n <= 8; n++) {
                GarbledWires x = new GarbledWires();
                due.is("feed(" + v + ", " + n + ")", x.feed(v, n), n);
                byte[] label = new byte[16];
                for (int b = 0; b < n; b++) {
                    label[b] = (byte) (v >> 8 * (n - 1 - b));
                }
                due.is("eight behind it", x.feed(0, 8), n + 8);
                if (n < 8) {
                    x.feed(0, 8 - n);
                }
                x.make(1, 0);
                due.sameBytes("the bytes of feed(" + v + ", " + n + ")", Bench.resultOf(x), Bench.twice(label));
            }
        }
    }

    @Sentence(promise = 2, says = "The lowest n bytes (1 .. 8) of v come behind THE TAPE, the highest of these first: "
            + "how many it has.")
    static void feedTooFewOrTooManyBytes(Due due) {
        GarbledWires x = new GarbledWires();
        for (int n : Bench.outside(1, 8)) {
            due.is("feed(1, " + n + ")", x.feed(1, n), Bench.BAD);
            due.is("count(0)", x.count(0), 0);
        }
        x.feed(1, 3);
        for (int n : Bench.outside(1, 8)) {
            due.is("feed(1, " + n + ") behind three", x.feed(1, n), Bench.BAD);
        }
        due.is("count(0)", x.count(0), 3);
    }

    @Sentence(promise = 2, says = "THE TAPE is a row of bytes, 4000 at most")
    static void feedUpToTheLastByte(Due due) {
        for (int n = 1; n <= 8; n++) {
            GarbledWires x = new GarbledWires();
            Bench.feed(x, new byte[4000 - n]);
            due.is("feed(0, " + n + ") up to 4000", x.feed(0, n), 4000);
            due.is("one more", x.feed(0, 1), Bench.FULL);
            due.is("count(0)", x.count(0), 4000);
        }
    }

    @Sentence(promise = 2, says = "THE TAPE is a row of bytes, 4000 at most")
    static void feedOneByteTooMany(Due due) {
        for (int n = 1; n <= 8; n++) {
            GarbledWires x = new GarbledWires();
            Bench.feed(x, new byte[4001 - n]);
            due.is("feed(0, " + n + ") up to 4001", x.feed(0, n), Bench.FULL);
            due.is("nothing of it came", x.count(0), 4001 - n);
            due.is("it is refused as a whole, once more", x.feed(0, n), Bench.FULL);
        }
    }

    @Sentence(promise = 2, says = NOTHING_CHANGES)
    static void feedRefusedLeavesTheTape(Due due) {
        GarbledWires x = new GarbledWires();
        Bench.feed(x, ("1;>" + " ".repeat(3996)).getBytes());
        due.is("feed two bytes", x.feed('x' << 8 | 'x', 2), Bench.FULL);
        due.is("feed nine bytes", x.feed('x', 9), Bench.BAD);
        due.is("feed the last byte", x.feed('0', 1), 4000);
        due.is("feed one byte", x.feed('x', 1), Bench.FULL);
        due.is("circuit() of what was not refused", x.circuit(), 0);
    }

    @Sentence(promise = 2, says = "BAD; FULL.")
    static void feedIsBadAheadOfFull(Due due) {
        GarbledWires x = new GarbledWires();
        Bench.feed(x, new byte[4000]);
        due.is("feed(0, 1)", x.feed(0, 1), Bench.FULL);
        due.is("feed(0, 8)", x.feed(0, 8), Bench.FULL);
        due.is("feed(0, 9)", x.feed(0, 9), Bench.BAD);
        due.is("feed(0, 0)", x.feed(0, 0), Bench.BAD);
        due.is("feed(0, -1)", x.feed(0, -1), Bench.BAD);
    }

    // ---- promise 3

    @Sentence(promise = 3, says = "THE TAPE is empty: how many bytes it had.")
    static void clearEmptyAndFull(Due due) {
        GarbledWires x = new GarbledWires();
        due.is("clear() of an empty one", x.clear(), 0);
        x.feed(1, 1);
        due.is("clear() of one byte", x.clear(), 1);
        due.is("clear() again", x.clear(), 0);
        Bench.feed(x, new byte[3999]);
        x.feed(0, 1);
        due.is("clear() of a full one", x.clear(), 4000);
        due.is("count(0)", x.count(0), 0);
        due.is("there is room again", x.feed(0, 8), 8);
    }

    @Sentence(promise = 3, says = "THE TAPE is empty: how many bytes it had.")
    static void clearedBytesAreNotRead(Due due) {
        GarbledWires x = new GarbledWires();
        Bench.feed(x, ONES);
        x.clear();
        due.is("key()", x.key(), Bench.SHORT);
        Bench.feed(x, ONES);
        x.clear();
        x.feed('1' << 24 | ';' << 16 | '>' << 8 | '0', 4);
        due.is("circuit() of the bytes behind clear()", x.circuit(), 0);
    }

    // ---- promise 4

    @Sentence(promise = 4, says = "THE KEY becomes the first 16 bytes of THE TAPE: 1.")
    static void keyOf15And16And17Bytes(Due due) {
        byte[] key = Bench.hex("2b7e151628aed2a6abf7158809cf4f3c");
        int[] lengths = {0, 1, 15, 16, 17, 32, 1600};
        for (int length : lengths) {
            GarbledWires x = new GarbledWires();
            byte[] bytes = java.util.Arrays.copyOf(key, length);
            java.util.Arrays.fill(bytes, Math.min(16, length), length, (byte) 0x55);
            Bench.feed(x, bytes);
            due.is("key() of " + length, x.key(), length < 16 ? Bench.SHORT : 1);
            due.sameBytes("a block by it", blockOf(x, ONES), Bench.block(length < 16 ? ZEROS : key, ONES));
        }
    }

    @Sentence(promise = 4, says = "THE KEY becomes the first 16 bytes of THE TAPE: 1.")
    static void keyOfUsedUpBytesIsShort(Due due) {
        GarbledWires x = new GarbledWires();
        Bench.feed(x, new byte[64]);
        x.clear();
        Bench.feed(x, new byte[15]);
        due.is("key() of 15 where 64 stood", x.key(), Bench.SHORT);
        due.is("key() of none where 15 stood", x.key(), Bench.SHORT);
    }

    @Sentence(promise = 4, says = "STATE: something is GARBLED; SHORT.")
    static void keyWhereSomethingIsGarbled(Due due) {
        GarbledWires x = new GarbledWires();
        Bench.circuit(x, "1;>0");
        Bench.feed(x, ONES);
        due.is("key() where there is a circuit alone", x.key(), 1);
        x.garble(0, 0, 0);
        Bench.feed(x, ONES);
        due.is("key() behind a garble() that was refused", x.key(), 1);
        Bench.feedCoins(x, 2, 1);
        x.garble(0, 0, 0);
        Bench.feed(x, ZEROS);
        due.is("key() where one is garbled", x.key(), Bench.STATE);
        due.is("STATE ahead of SHORT", x.key(), Bench.STATE);
        Bench.feed(x, new byte[15]);
        due.is("STATE ahead of SHORT, of 15 bytes", x.key(), Bench.STATE);
        due.sameBytes("the key stays", blockOf(x, ZEROS), Bench.block(ONES, ZEROS));
    }

    @Sentence(promise = 4, says = USED_UP)
    static void keyUsesTheTapeUp(Due due) {
        GarbledWires x = new GarbledWires();
        Bench.feed(x, new byte[40]);
        x.key();
        due.is("count(0) behind key()", x.count(0), 0);
        Bench.feed(x, new byte[15]);
        x.key();
        due.is("count(0) behind SHORT", x.count(0), 0);
        Bench.circuit(x, "1;>0");
        Bench.feedCoins(x, 2, 1);
        x.garble(0, 0, 0);
        Bench.feed(x, new byte[40]);
        x.key();
        due.is("count(0) behind STATE", x.count(0), 0);
    }

    @Sentence(promise = 4, says = NOTHING_CHANGES)
    static void keyRefusedChangesNothing(Due due) {
        GarbledWires x = new GarbledWires();
        Bench.feed(x, ONES);
        x.key();
        blockOf(x, ZEROS);
        String before = Bench.traces(x);
        Bench.feed(x, new byte[15]);
        x.key();
        due.holds("all is as before SHORT", before.equals(Bench.traces(x)));
        due.sameBytes("the key, too", blockOf(x, ZEROS), Bench.block(ONES, ZEROS));
    }

    @Sentence(promise = 4, says = "THE KEY (16 bytes, all 0 at first)")
    static void keyAllZeroAtFirst(Due due) {
        GarbledWires x = new GarbledWires();
        due.sameBytes("a block of zeros", blockOf(x, ZEROS), Bench.hex("66e94bd4ef8a2c3b884cfa59ca342b2e"));
        due.sameBytes("a block of ones", blockOf(x, ONES), Bench.block(ZEROS, ONES));
        Bench.feed(x, ONES);
        x.key();
        due.sameBytes("by a key of ones", blockOf(x, ONES), Bench.hex("bcbf217cb280cf30b2517052193ab979"));
        Bench.feed(x, ZEROS);
        due.is("key() of zeros again", x.key(), 1);
        due.sameBytes("by it", blockOf(x, ZEROS), Bench.hex("66e94bd4ef8a2c3b884cfa59ca342b2e"));
    }

    @Sentence(promise = 4, says = "w(i - 1) is turned first by one byte (its first byte goes last)")
    static void keyOfOneByteAtEachPlace(Due due) {
        for (int place = 0; place < 16; place++) {
            for (int value : new int[] {1, 0x80, 0xff}) {
                byte[] key = new byte[16];
                key[place] = (byte) value;
                GarbledWires x = new GarbledWires();
                Bench.feed(x, key);
                x.key();
                due.sameBytes("a key of " + value + " at " + place, blockOf(x, ZEROS), Bench.block(key, ZEROS));
            }
        }
    }

    /** Of the powers 0 .. 9 the last two wrap: the eighth is 0x1b, the ninth 0x36, as the published example shows. */
    @Sentence(promise = 4, says = "the first one is xored with the (i / 4 - 1)-th power of x (power 0 is 1)")
    static void keyPowersWrap(Due due) {
        GarbledWires x = new GarbledWires();
        Bench.feed(x, Bench.hex("2b7e151628aed2a6abf7158809cf4f3c"));
        x.key();
        due.sameBytes("the published example", blockOf(x, Bench.hex("3243f6a8885a308d313198a2e0370734")),
                Bench.hex("3925841d02dc09fbdc118597196a0b32"));
    }

    // ---- promise 5

    @Sentence(promise = 5, says = "16 of them as a BLOCK that is made into another one")
    static void makeABlockOf15And16And17Bytes(Due due) {
        makeOfLengths(due, 0, 16, Bench.block(ZEROS, label(0)));
    }

    @Sentence(promise = 5, says = "1: a LABEL DOUBLED")
    static void makeADoubleOf15And16And17Bytes(Due due) {
        makeOfLengths(due, 1, 16, Bench.twice(label(0)));
    }

    @Sentence(promise = 5, says = "2: a LABEL's HASH by t")
    static void makeAHashOf15And16And17Bytes(Due due) {
        makeOfLengths(due, 2, 16, Bench.hash(ZEROS, label(0), null, 5));
    }

    @Sentence(promise = 5, says = "3: the HASH by t of two LABELS (32 bytes): 1.")
    static void makeAHashOf31And32And33Bytes(Due due) {
        makeOfLengths(due, 3, 32, Bench.hash(ZEROS, label(0), label(1), 5));
    }

    /** Numbers of bytes about the least that does, with what was left over of another make() behind them. */
    private static void makeOfLengths(Due due, int what, int least, byte[] want) {
        byte[] both = new byte[4000];
        System.arraycopy(label(0), 0, both, 0, 16);
        System.arraycopy(label(1), 0, both, 16, 16);
        for (int length : new int[] {0, 1, least - 1, least, least + 1, 100}) {
            GarbledWires x = new GarbledWires();
            Bench.feed(x, java.util.Arrays.copyOf(both, 64));
            x.clear();
            Bench.feed(x, java.util.Arrays.copyOf(both, length));
            due.is("make(" + what + ", 5) of " + length, x.make(what, 5), length < least ? Bench.SHORT : 1);
            due.sameBytes("the result of " + length, Bench.resultOf(x), length < least ? ZEROS : want);
            due.is("count(3)", x.count(3), length < least || what == 1 ? 0 : 1);
        }
        GarbledWires x = new GarbledWires();
        Bench.feed(x, both);
        due.is("make(" + what + ", 5) of a full tape", x.make(what, 5), 1);
    }

    @Sentence(promise = 5, says = "BAD; SHORT.")
    static void makeOfNoSuchKind(Due due) {
        GarbledWires x = new GarbledWires();
        for (int what : Bench.outside(0, 3)) {
            Bench.feed(x, new byte[32]);
            due.is("make(" + what + ", 0)", x.make(what, 0), Bench.BAD);
            due.is("make(" + what + ", 0), BAD ahead of SHORT", x.make(what, 0), Bench.BAD);
        }
    }

    @Sentence(promise = 5, says = USED_UP)
    static void makeUsesTheTapeUp(Due due) {
        GarbledWires x = new GarbledWires();
        for (int what = -1; what <= 4; what++) {
            for (int length : new int[] {15, 31, 40}) {
                Bench.feed(x, new byte[length]);
                x.make(what, 0);
                due.is("count(0) behind make(" + what + ", 0) of " + length, x.count(0), 0);
            }
        }
    }

    @Sentence(promise = 5, says = NOTHING_CHANGES)
    static void makeRefusedChangesNothing(Due due) {
        GarbledWires x = new GarbledWires();
        blockOf(x, ONES);
        String before = Bench.traces(x);
        for (int what = -1; what <= 4; what++) {
            Bench.feed(x, new byte[what == 3 ? 31 : 15]);
            due.is("make(" + what + ", 0)", x.make(what, 0), what < 0 || what > 3 ? Bench.BAD : Bench.SHORT);
            due.holds("all is as before make(" + what + ", 0)", before.equals(Bench.traces(x)));
        }
    }

    @Sentence(promise = 5, says =
            "S of a byte: its inverse v there (0 for 0); then v xor v turned left by 1, 2, 3, 4 bits, "
            + "xor 0x63.")
    static void blocksOfEachByte(Due due) {
        for (int value = 0; value < 256; value++) {
            GarbledWires x = new GarbledWires();
            byte[] block = new byte[16];
            java.util.Arrays.fill(block, (byte) value);
            due.sameBytes("a block of bytes " + value, blockOf(x, block), Bench.block(ZEROS, block));
        }
    }

    /** Doubled and trebled, bytes from 0x80 on fall off; each place of each column has them in turn. */
    @Sentence(promise = 5, says = "multiplied modulo x^8 + x^4 + x^3 + x + 1")
    static void blocksOfProductsThatFallOff(Due due) {
        for (int place = 0; place < 16; place++) {
            GarbledWires x = new GarbledWires();
            for (int value : new int[] {0x3a, 0x52, 0x7d, 0x91, 0xff}) {
                byte[] block = new byte[16];
                java.util.Arrays.fill(block, (byte) 0x52);
                block[place] = (byte) value;
                due.sameBytes("a block of " + value + " at " + place, blockOf(x, block), Bench.block(ZEROS, block));
            }
        }
    }

    @Sentence(promise = 5, says = "byte r + 4 c becomes what stood at r + 4 ((c + r) modulo 4), r, c 0 .. 3")
    static void blocksOfOneByteAtEachPlace(Due due) {
        for (int place = 0; place < 16; place++) {
            GarbledWires x = new GarbledWires();
            byte[] block = new byte[16];
            block[place] = (byte) 0x80;
            due.sameBytes("a block of one byte at " + place, blockOf(x, block), Bench.block(ZEROS, block));
        }
    }

    @Sentence(promise = 5, says =
            "one bit to the left, the first byte the highest; what falls off, 1, xors the last byte "
            + "with 0x87")
    static void doubleOfEachBit(Due due) {
        for (int bit = 0; bit < 128; bit++) {
            GarbledWires x = new GarbledWires();
            byte[] label = new byte[16];
            label[bit / 8] = (byte) (0x80 >> bit % 8);
            byte[] want = new byte[16];
            if (bit == 0) {
                want[15] = (byte) 0x87;
            } else {
                want[(bit - 1) / 8] = (byte) (0x80 >> (bit - 1) % 8);
            }
            Bench.feed(x, label);
            x.make(1, 0);
            due.sameBytes("the double of bit " + bit, Bench.resultOf(x), want);
        }
    }

    @Sentence(promise = 5, says =
            "one bit to the left, the first byte the highest; what falls off, 1, xors the last byte "
            + "with 0x87")
    static void doubleOfNoneAndOfAll(Due due) {
        String[][] pairs = {
            {"00000000000000000000000000000000", "00000000000000000000000000000000"},
            {"ffffffffffffffffffffffffffffffff", "ffffffffffffffffffffffffffffff79"},
            {"7fffffffffffffffffffffffffffffff", "fffffffffffffffffffffffffffffffe"},
            {"80000000000000000000000000000043", "00000000000000000000000000000001"},
        };
        GarbledWires x = new GarbledWires();
        for (String[] pair : pairs) {
            Bench.feed(x, Bench.hex(pair[0]));
            x.make(1, Integer.MIN_VALUE);
            due.sameBytes("the double of " + pair[0], Bench.resultOf(x), Bench.hex(pair[1]));
        }
        due.is("count(3)", x.count(3), 0);
    }

    @Sentence(promise = 5, says = "K is DOUBLE of A, its last four bytes xored with t (the highest byte first); "
            + "the BLOCK of K, xor K")
    static void hashByTheSmallestAndTheLargest(Due due) {
        int[] numbers = {0, 1, -1, 0xff, 0x100, 0xff000000, 0x01020304, Integer.MIN_VALUE, Integer.MAX_VALUE};
        byte[][] labels = {ZEROS, ONES, Bench.hex("80000000000000000000000000000000"), label(0)};
        for (byte[] a : labels) {
            GarbledWires x = new GarbledWires();
            for (int t : numbers) {
                Bench.feed(x, a);
                due.is("make(2, " + t + ")", x.make(2, t), 1);
                due.sameBytes("its result", Bench.resultOf(x), Bench.hash(ZEROS, a, null, t));
            }
        }
    }

    @Sentence(promise = 5, says = "Of A and B: K is DOUBLE of A xor DOUBLE of DOUBLE of B, else as told.")
    static void hashOfTwoWhoseBitsFallOff(Due due) {
        String[] heads = {"00", "40", "80", "c0", "ff"};
        for (String a : heads) {
            GarbledWires x = new GarbledWires();
            for (String b : heads) {
                byte[] first = Bench.hex(a + "000000000000000000000000000001");
                byte[] second = Bench.hex(b + "000000000000008000000000000002");
                Bench.feed(x, first);
                Bench.feed(x, second);
                x.make(3, -2);
                due.sameBytes("of " + a + ".. and " + b + "..", Bench.resultOf(x),
                        Bench.hash(ZEROS, first, second, -2));
            }
        }
    }

    // ---- promise 6

    @Sentence(promise = 6, says = "Byte i (0 .. 15) of the RESULT (0 .. 255; 0 at first).")
    static void resultIsZeroAtFirst(Due due) {
        GarbledWires x = new GarbledWires();
        due.sameBytes("the result of a new one", Bench.resultOf(x), ZEROS);
        x.make(0, 0);
        due.sameBytes("behind SHORT", Bench.resultOf(x), ZEROS);
    }

    @Sentence(promise = 6, says = "Byte i (0 .. 15) of the RESULT (0 .. 255; 0 at first).")
    static void resultIsNeverBelowZero(Due due) {
        GarbledWires x = new GarbledWires();
        Bench.feed(x, Bench.hex("7fc0007fffffffffffc0403fffffff80"));
        x.make(1, 0);
        int[] want = {255, 128, 0, 255, 255, 255, 255, 255, 255, 128, 128, 127, 255, 255, 255, 0};
        for (int i = 0; i < 16; i++) {
            due.is("result(" + i + ")", x.result(i), want[i]);
        }
    }

    @Sentence(promise = 6, says = "BAD.")
    static void resultOfNoSuchByte(Due due) {
        GarbledWires x = new GarbledWires();
        for (int i : Bench.outside(0, 15)) {
            due.is("result(" + i + ") at first", x.result(i), Bench.BAD);
        }
        blockOf(x, ONES);
        for (int i : Bench.outside(0, 15)) {
            due.is("result(" + i + ")", x.result(i), Bench.BAD);
        }
    }

    // ---- helpers

    private static byte[] label(long seed) {
        return Bench.coins(1, 500 + seed);
    }

    private static byte[] blockOf(GarbledWires x, byte[] block) {
        Bench.feed(x, block);
        x.make(0, 0);
        return Bench.resultOf(x);
    }
}
