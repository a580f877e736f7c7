import java.util.Random;

/** Promises 1 to 6: a new object, the tape, the key, blocks, doubles and hashes. */
public final class TapeAndCipherTest {
    private static final Due due = new Due();

    public static void main(String[] args) {
        promise1NewObject();
        promise2Feed();
        promise2FeedUpToTheBrim();
        promise3Clear();
        promise4Key();
        promise4KeyRefused();
        promise5Blocks();
        promise5BlocksOfEveryByte();
        promise5Doubles();
        promise5Hashes();
        promise5Refused();
        promise6Result();
        due.end();
    }

    private static void promise1NewObject() {
        GarbledWires x = new GarbledWires();
        for (int what = 0; what < 4; what++) {
            due.is("1: count(" + what + ") of a new one", x.count(what), 0);
        }
        for (int i = 0; i < 16; i++) {
            due.is("1: result(" + i + ") of a new one", x.result(i), 0);
        }
        due.is("1: status() of a new one", x.status(), 0);
        due.is("1: clear() of a new one", x.clear(), 0);
        due.is("1: about(0, 0)", x.about(0, 0), Bench.BAD);
        due.is("1: told(0, 0)", x.told(0, 0), Bench.BAD);
        Bench.feed(x, new byte[16]);
        x.make(0, 0);
        due.sameBytes("1: the key is 0", Bench.resultOf(x), Bench.hex("66e94bd4ef8a2c3b884cfa59ca342b2e"));
        due.is("1: another new one has nothing of it", new GarbledWires().count(3), 0);
    }

    private static void promise2Feed() {
        GarbledWires x = new GarbledWires();
        due.is("2: feed one byte", x.feed(0x1234, 1), 1);
        due.is("2: feed eight", x.feed(0x0102030405060708L, 8), 9);
        due.is("2: feed three", x.feed(0xff0a0b0cL, 3), 12);
        due.is("2: feed four", x.feed(-2L, 4), 16);
        int[] wrong = {0, 9, -1, Integer.MIN_VALUE, Integer.MAX_VALUE};
        for (int n : wrong) {
            due.is("2: feed(1, " + n + ")", x.feed(1, n), Bench.BAD);
        }
        due.is("2: count(0)", x.count(0), 16);
        x.make(1, 0);
        due.sameBytes("2: the order of what was fed", Bench.resultOf(x),
                Bench.twice(Bench.hex("3401020304050607080a0b0cfffffffe")));
    }

    private static void promise2FeedUpToTheBrim() {
        GarbledWires x = new GarbledWires();
        for (int i = 0; i < 499; i++) {
            x.feed(-1, 8);
        }
        due.is("2: 3999 bytes", x.feed(-1, 7), 3999);
        due.is("2: two more are too many", x.feed(-1, 2), Bench.FULL);
        due.is("2: eight more are too many", x.feed(-1, 8), Bench.FULL);
        due.is("2: BAD is told ahead of FULL", x.feed(-1, 9), Bench.BAD);
        due.is("2: nothing of these came", x.count(0), 3999);
        due.is("2: the last byte", x.feed(-1, 1), 4000);
        due.is("2: one more", x.feed(-1, 1), Bench.FULL);
        due.is("2: clear", x.clear(), 4000);
        due.is("2: there is room again", x.feed(-1, 8), 8);
    }

    private static void promise3Clear() {
        GarbledWires x = new GarbledWires();
        x.feed(5, 5);
        due.is("3: clear()", x.clear(), 5);
        due.is("3: clear() again", x.clear(), 0);
        due.is("3: count(0)", x.count(0), 0);
        due.is("3: feed begins anew", x.feed(1, 2), 2);
        x.clear();
        due.is("3: what was cleared is not read", x.key(), Bench.SHORT);
    }

    private static void promise4Key() {
        GarbledWires x = new GarbledWires();
        byte[] key = Bench.hex("2b7e151628aed2a6abf7158809cf4f3c");
        Bench.feed(x, key);
        x.feed(-1, 8);
        due.is("4: key()", x.key(), 1);
        due.is("4: the tape is used up, with what was left over", x.count(0), 0);
        due.is("4: no block is made", x.count(3), 0);
        Bench.feed(x, Bench.hex("3243f6a8885a308d313198a2e0370734"));
        x.make(0, 0);
        due.sameBytes("4: a block by the key", Bench.resultOf(x), Bench.hex("3925841d02dc09fbdc118597196a0b32"));
        Bench.feed(x, new byte[16]);
        due.is("4: another key", x.key(), 1);
        Bench.feed(x, new byte[16]);
        x.make(0, 0);
        due.sameBytes("4: a block by the other key", Bench.resultOf(x), Bench.hex("66e94bd4ef8a2c3b884cfa59ca342b2e"));
    }

    private static void promise4KeyRefused() {
        GarbledWires x = new GarbledWires();
        due.is("4: key() of an empty tape", x.key(), Bench.SHORT);
        // What stood on the tape before must not make up for the byte that is missing.
        Bench.feed(x, Bench.coins(1, 4));
        x.clear();
        Bench.feed(x, new byte[15]);
        due.is("4: key() of 15 bytes", x.key(), Bench.SHORT);
        due.is("4: they are used up", x.count(0), 0);
        Bench.feed(x, new byte[16]);
        x.make(0, 0);
        due.is("4: the key stays 0", x.result(0), 0x66);
        Bench.circuit(x, "1;>0");
        Bench.feedCoins(x, 2, 1);
        x.garble(0, 0, 0);
        Bench.feedCoins(x, 1, 2);
        due.is("4: key() where something is garbled", x.key(), Bench.STATE);
        due.is("4: refused by STATE, too, the tape is used up", x.count(0), 0);
        due.is("4: STATE is told ahead of SHORT", x.key(), Bench.STATE);
        Bench.feed(x, new byte[16]);
        x.make(0, 0);
        due.is("4: the key is 0 still", x.result(0), 0x66);
    }

    private static void promise5Blocks() {
        GarbledWires x = new GarbledWires();
        byte[] key = Bench.hex("000102030405060708090a0b0c0d0e0f");
        Bench.feed(x, key);
        x.key();
        Bench.feed(x, Bench.hex("00112233445566778899aabbccddeeff"));
        x.feed(77, 3);
        due.is("5: make(0, 99)", x.make(0, 99), 1);
        due.sameBytes("5: a block", Bench.resultOf(x), Bench.hex("69c4e0d86a7b0430d8cdb78070b4c55a"));
        due.is("5: the tape is used up", x.count(0), 0);
        due.is("5: a block was made", x.count(3), 1);
    }

    /** Keys and blocks of a random kind, so many that each of the 256 values of S has its part. */
    private static void promise5BlocksOfEveryByte() {
        Random coins = new Random(5);
        for (int i = 0; i < 300; i++) {
            GarbledWires x = new GarbledWires();
            byte[] key = new byte[16];
            byte[] block = new byte[16];
            coins.nextBytes(key);
            coins.nextBytes(block);
            Bench.feed(x, key);
            x.key();
            Bench.feed(x, block);
            x.make(0, 0);
            due.sameBytes("5: block " + i, Bench.resultOf(x), Bench.block(key, block));
        }
    }

    private static void promise5Doubles() {
        GarbledWires x = new GarbledWires();
        String[][] pairs = {
            {"80000000000000000000000000000001", "00000000000000000000000000000085"},
            {"7fffffffffffffffffffffffffffffff", "fffffffffffffffffffffffffffffffe"},
            {"ffffffffffffffffffffffffffffffff", "ffffffffffffffffffffffffffffff79"},
            {"00000000000000008000000000000000", "00000000000000010000000000000000"},
            {"0102030405060708090a0b0c0d0e0f80", "020406080a0c0e10121416181a1c1f00"},
        };
        for (String[] pair : pairs) {
            Bench.feed(x, Bench.hex(pair[0]));
            due.is("5: make(1, -1)", x.make(1, -1), 1);
            due.sameBytes("5: double of " + pair[0], Bench.resultOf(x), Bench.hex(pair[1]));
        }
        due.is("5: doubles make no blocks", x.count(3), 0);
    }

    private static void promise5Hashes() {
        GarbledWires x = new GarbledWires();
        byte[] key = Bench.coins(1, 51);
        Bench.feed(x, key);
        x.key();
        int[] numbers = {0, 1, 255, 256, 0x01020304, -1, Integer.MIN_VALUE, Integer.MAX_VALUE};
        for (int n = 0; n < numbers.length; n++) {
            byte[] a = Bench.coins(1, 60 + n);
            byte[] b = Bench.coins(1, 80 + n);
            Bench.feed(x, a);
            due.is("5: make(2, " + numbers[n] + ")", x.make(2, numbers[n]), 1);
            due.sameBytes("5: hash of one", Bench.resultOf(x), Bench.hash(key, a, null, numbers[n]));
            Bench.feed(x, a);
            Bench.feed(x, b);
            due.is("5: make(3, " + numbers[n] + ")", x.make(3, numbers[n]), 1);
            due.sameBytes("5: hash of two", Bench.resultOf(x), Bench.hash(key, a, b, numbers[n]));
        }
        due.is("5: a block each", x.count(3), 2 * numbers.length);
    }

    private static void promise5Refused() {
        GarbledWires x = new GarbledWires();
        Bench.feed(x, new byte[16]);
        x.make(0, 0);
        byte[] before = Bench.resultOf(x);
        int[] wrong = {-1, 4, Integer.MIN_VALUE, Integer.MAX_VALUE};
        for (int what : wrong) {
            Bench.feedCoins(x, 2, 1);
            due.is("5: make(" + what + ", 0)", x.make(what, 0), Bench.BAD);
            due.is("5: BAD, too, uses the tape up", x.count(0), 0);
            due.is("5: BAD is told ahead of SHORT", x.make(what, 0), Bench.BAD);
        }
        for (int what = 0; what < 4; what++) {
            Bench.feed(x, new byte[what == 3 ? 31 : 15]);
            due.is("5: make(" + what + ", 0) of too few", x.make(what, 0), Bench.SHORT);
            due.is("5: SHORT uses the tape up", x.count(0), 0);
        }
        due.sameBytes("5: the result stays", Bench.resultOf(x), before);
        due.is("5: no block was made of these", x.count(3), 1);
    }

    private static void promise6Result() {
        GarbledWires x = new GarbledWires();
        Bench.feed(x, Bench.hex("00112233445566778899aabbccddeeff"));
        x.make(1, 0);
        int[] want = {0x00, 0x22, 0x44, 0x66, 0x88, 0xaa, 0xcc, 0xef, 0x11, 0x33, 0x55, 0x77, 0x99, 0xbb, 0xdd, 0xfe};
        for (int i = 0; i < 16; i++) {
            due.is("6: result(" + i + ")", x.result(i), want[i]);
        }
        for (int i : Bench.NOT_A_BYTE_OF_A_LABEL) {
            due.is("6: result(" + i + ")", x.result(i), Bench.BAD);
        }
    }
}
