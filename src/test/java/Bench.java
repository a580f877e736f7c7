import java.nio.charset.StandardCharsets;
import java.util.Random;
import javax.crypto.Cipher;
import javax.crypto.spec.SecretKeySpec;

/** What several tests need: filling the tape, reading whole labels, and the cipher of the Java library. */
final class Bench {
    static final int BAD = -1, FULL = -2, STATE = -3, SHORT = -4, NULL = -11, CAST = -13, INDEX = -12, NONE = -9;
    static final int[] NOT_A_BYTE_OF_A_LABEL = {-1, 16, Integer.MIN_VALUE, Integer.MAX_VALUE};

    private Bench() {
    }

    static void feed(GarbledWires x, byte[] bytes) {
        for (int at = 0; at < bytes.length; at += 8) {
            int n = Math.min(8, bytes.length - at);
            long v = 0;
            for (int b = 0; b < n; b++) {
                v = v << 8 | bytes[at + b] & 255;
            }
            x.feed(v, n);
        }
    }

    static int circuit(GarbledWires x, String text) {
        feed(x, text.getBytes(StandardCharsets.ISO_8859_1));
        return x.circuit();
    }

    /** An object with one circuit that is garbled once; the key is 0. */
    static GarbledWires garbled(String text, int way, int kind, long seed) {
        GarbledWires x = new GarbledWires();
        circuit(x, text);
        feedCoins(x, 1 + x.about(0, 0) + x.about(0, 3), seed);
        x.garble(0, way, kind);
        return x;
    }

    /** The most of all: 16 inputs, 40 gates, all tabled and each of the one ahead of it, 8 outputs. */
    static String biggestText() {
        StringBuilder text = new StringBuilder("16;");
        for (int i = 0; i < 40; i++) {
            text.append("&|/%#".charAt(i % 5)).append(15 + i).append(' ').append(i % 16).append(';');
        }
        return text.append(">55 54 53 52 51 16 15 0").toString();
    }

    /** Not lowest .. highest: the next numbers, the farthest, and those that a cut to fewer bits would let in. */
    static int[] outside(int lowest, int highest) {
        return new int[] {lowest - 1, highest + 1, lowest - 256, highest + 256, lowest - 65536, highest + 65536,
            Integer.MIN_VALUE, Integer.MIN_VALUE + highest, Integer.MAX_VALUE};
    }

    /** What an object tells of itself but for the tape, to see that nothing changes; some 60 calls with one garbled. */
    static String traces(GarbledWires x) {
        StringBuilder all = new StringBuilder("status " + x.status());
        for (int what = 1; what < 4; what++) {
            all.append(" count ").append(x.count(what));
        }
        for (int i = 0; i < 16; i++) {
            all.append(" result ").append(x.result(i));
        }
        for (int g = 0; g < x.count(2); g++) {
            for (int what = 0; what < 7; what++) {
                all.append(" told ").append(x.told(g, what));
            }
            for (int r = 0; r < 4; r++) {
                all.append(" row ").append(x.row(g, 0, r, 0)).append(' ').append(x.row(g, 0, r, 15));
            }
            for (int wire = 0; wire < x.about(x.told(g, 0), 4); wire++) {
                all.append(" active ").append(x.active(g, wire, 0)).append(' ').append(x.active(g, wire, 15));
            }
        }
        return all.toString();
    }

    /** Feeds this many coins of 16 bytes that come of the seed. */
    static void feedCoins(GarbledWires x, int coins, long seed) {
        feed(x, coins(coins, seed));
    }

    static byte[] coins(int coins, long seed) {
        byte[] bytes = new byte[16 * coins];
        new Random(seed).nextBytes(bytes);
        return bytes;
    }

    static byte[] labelOf(GarbledWires x, int garbled, int wire, int truth) {
        byte[] label = new byte[16];
        for (int i = 0; i < 16; i++) {
            label[i] = (byte) x.label(garbled, wire, truth, i);
        }
        return label;
    }

    static byte[] rowOf(GarbledWires x, int garbled, int t, int r) {
        byte[] row = new byte[16];
        for (int i = 0; i < 16; i++) {
            row[i] = (byte) x.row(garbled, t, r, i);
        }
        return row;
    }

    static byte[] activeOf(GarbledWires x, int garbled, int wire) {
        byte[] label = new byte[16];
        for (int i = 0; i < 16; i++) {
            label[i] = (byte) x.active(garbled, wire, i);
        }
        return label;
    }

    static byte[] resultOf(GarbledWires x) {
        byte[] result = new byte[16];
        for (int i = 0; i < 16; i++) {
            result[i] = (byte) x.result(i);
        }
        return result;
    }

    static byte[] hex(String digits) {
        byte[] bytes = new byte[digits.length() / 2];
        for (int b = 0; b < bytes.length; b++) {
            bytes[b] = (byte) Integer.parseInt(digits.substring(2 * b, 2 * b + 2), 16);
        }
        return bytes;
    }

    static byte[] xor(byte[] a, byte[] b) {
        byte[] both = new byte[16];
        for (int i = 0; i < 16; i++) {
            both[i] = (byte) (a[i] ^ b[i]);
        }
        return both;
    }

    static int colour(byte[] label) {
        return label[15] & 1;
    }

    static byte[] block(byte[] key, byte[] block) {
        try {
            Cipher aes = Cipher.getInstance("AES/ECB/NoPadding");
            aes.init(Cipher.ENCRYPT_MODE, new SecretKeySpec(key, "AES"));
            return aes.doFinal(block);
        } catch (java.security.GeneralSecurityException e) {
            throw new IllegalStateException(e);
        }
    }

    static byte[] twice(byte[] label) {
        byte[] left = new byte[16];
        for (int i = 0; i < 16; i++) {
            int next = i < 15 ? label[i + 1] & 255 : 0;
            left[i] = (byte) ((label[i] & 255) << 1 | next >>> 7);
        }
        if (label[0] < 0) {
            left[15] ^= (byte) 0x87;
        }
        return left;
    }

    /** The hash of a, or of a and b, by t. */
    static byte[] hash(byte[] key, byte[] a, byte[] b, int t) {
        byte[] k = twice(a);
        if (b != null) {
            k = xor(k, twice(twice(b)));
        }
        for (int i = 0; i < 4; i++) {
            k[12 + i] ^= (byte) (t >>> (24 - 8 * i));
        }
        return xor(block(key, k), k);
    }
}
