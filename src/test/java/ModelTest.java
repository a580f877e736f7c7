import java.nio.charset.StandardCharsets;
import java.util.Random;

/** Runs of calls by coins of fixed seeds, on the class and on the model of the document. */
public final class ModelTest {
    private static final int RUNS = 2000;
    /** An object is used for 512 calls at most, and the longest step has some 130. */
    private static final int LAST_STEP = 380;
    private static final String SIGNS = "&|/%#^!";
    private static final int[] ODD = {-1, -2, 16, 17, 8, 5, 6, 7, 40, 56, 255, 65536, Integer.MIN_VALUE,
        Integer.MAX_VALUE};

    private final Due due;
    private final Random coins;
    private final GarbledWires x = new GarbledWires();
    private final Model m = new Model();
    private final String name;
    private int calls;

    private ModelTest(Due due, int run) {
        this.due = due;
        this.coins = new Random(run);
        this.name = "run " + run;
    }

    public static void main(String[] args) {
        Due due = new Due();
        for (int run = 0; run < RUNS && due.isFine(); run++) {
            new ModelTest(due, run).play();
        }
        due.end();
    }

    private void play() {
        while (calls < LAST_STEP) {
            step();
        }
    }

    private void same(String call, long got, long want) {
        calls++;
        due.is(name + ", call " + calls + ": " + call, got, want);
    }

    private boolean rarely() {
        return coins.nextInt(25) == 0;
    }

    /** Mostly 0 .. bound - 1, at times just beyond, at times far out. */
    private int pick(int bound) {
        if (rarely()) {
            return coins.nextBoolean() ? bound : ODD[coins.nextInt(ODD.length)];
        }
        return bound <= 0 ? 0 : coins.nextInt(bound);
    }

    private void step() {
        int c = pick(m.count(1));
        int g = pick(m.count(2));
        int wires = Math.max(0, m.about(m.told(g, 0), 4));
        int inputs = Math.max(0, m.about(m.told(g, 0), 0));
        int outputs = Math.max(0, m.about(m.told(g, 0), 2));
        int tabled = Math.max(0, m.about(m.told(g, 0), 3));
        switch (coins.nextInt(30)) {
            case 0 -> feedBytes(coins.nextInt(40));
            case 1 -> clear();
            case 2 -> key();
            case 3, 4 -> make();
            case 5 -> result(pick(16));
            case 6, 7 -> circuit();
            case 8 -> about(c, pick(5));
            case 9 -> gate(c, pick(Math.max(0, m.about(c, 1))), pick(4));
            case 10 -> output(c, pick(Math.max(0, m.about(c, 2))));
            case 11 -> plain(c);
            case 12, 13 -> garble(c);
            case 14 -> told(g, pick(7));
            case 15, 16 -> label(g, pick(wires + 1) - 1, pick(2), pick(16));
            case 17 -> row(g, pick(tabled), pick(4), pick(16));
            case 18 -> spoil(g, pick(tabled), pick(4), pick(16));
            case 19 -> choose(g, pick(inputs), pick(2));
            case 20 -> encode(g);
            case 21 -> lay(g, pick(inputs));
            case 22, 23 -> workOut(g);
            case 24 -> active(g, pick(wires), pick(16));
            case 25 -> place(g, pick(wires));
            case 26 -> open(g, pick(outputs));
            case 27 -> same("openAll(" + g + ")", x.openAll(g), m.openAll(g));
            case 28 -> agrees(g);
            default -> count();
        }
    }

    private void feedOne(long v, int n) {
        same("feed(" + v + ", " + n + ")", x.feed(v, n), m.feed(v, n));
    }

    private void feedBytes(int n) {
        byte[] bytes = new byte[n];
        coins.nextBytes(bytes);
        feedAll(bytes);
        if (rarely()) {
            feedOne(coins.nextLong(), pick(9));
        }
    }

    private void feedAll(byte[] bytes) {
        for (int at = 0; at < bytes.length; at += 8) {
            int n = Math.min(8, bytes.length - at);
            long v = coins.nextLong();
            for (int b = 0; b < n; b++) {
                v = v << 8 | bytes[at + b] & 255;
            }
            feedOne(v, n);
        }
    }

    private void clear() {
        if (rarely()) {
            same("clear()", x.clear(), m.clear());
        }
    }

    private void key() {
        if (coins.nextInt(3) == 0) {
            feedBytes(coins.nextInt(4) == 0 ? 15 : 16);
            same("key()", x.key(), m.key());
        }
    }

    private void make() {
        feedBytes(coins.nextInt(5) == 0 ? coins.nextInt(34) : 32);
        int what = pick(4);
        int t = coins.nextInt();
        same("make(" + what + ", " + t + ")", x.make(what, t), m.make(what, t));
        for (int i = 0; i < 16; i++) {
            result(i);
        }
    }

    private void result(int i) {
        same("result(" + i + ")", x.result(i), m.result(i));
    }

    private void circuit() {
        if (m.count(0) > 0 && coins.nextInt(4) > 0) {
            clearNow();
        }
        String text = text();
        feedAll(text.getBytes(StandardCharsets.ISO_8859_1));
        same("circuit() of '" + text + "'", x.circuit(), m.circuit());
    }

    private void clearNow() {
        same("clear()", x.clear(), m.clear());
    }

    private String blanks(int least) {
        return " ".repeat(least + Math.max(0, coins.nextInt(8) - 6));
    }

    private String number(int v) {
        return coins.nextInt(10) == 0 ? "0".repeat(coins.nextInt(4)) + v : "" + v;
    }

    private String text() {
        int inputs = 1 + coins.nextInt(coins.nextInt(4) == 0 ? 16 : 4);
        int gates = coins.nextInt(8) == 0 ? 38 + coins.nextInt(4) : coins.nextInt(8);
        int outputs = 1 + coins.nextInt(coins.nextInt(6) == 0 ? 9 : 5);
        StringBuilder s = new StringBuilder(blanks(0) + number(inputs) + blanks(0) + ";");
        for (int i = 0; i < gates; i++) {
            char sign = SIGNS.charAt(coins.nextInt(7));
            s.append(blanks(0)).append(sign).append(blanks(0)).append(number(coins.nextInt(inputs + i)));
            if (sign != '!') {
                s.append(blanks(1)).append(number(coins.nextInt(inputs + i)));
            }
            s.append(blanks(0)).append(";");
        }
        s.append(blanks(0)).append(">");
        for (int o = 0; o < outputs; o++) {
            s.append(blanks(o == 0 ? 0 : 1)).append(number(coins.nextInt(inputs + gates)));
        }
        s.append(blanks(0));
        return coins.nextInt(3) == 0 ? spoilt(s) : s.toString();
    }

    private String spoilt(StringBuilder s) {
        String bytes = " ;>&|/%#^!0123456789\u00ff\tx";
        char c = bytes.charAt(coins.nextInt(bytes.length()));
        int at = coins.nextInt(s.length());
        switch (coins.nextInt(4)) {
            case 0 -> s.setCharAt(at, c);
            case 1 -> s.insert(at, c);
            case 2 -> s.deleteCharAt(at);
            default -> s.setLength(at);
        }
        return s.toString();
    }

    private void about(int c, int what) {
        same("about(" + c + ", " + what + ")", x.about(c, what), m.about(c, what));
    }

    private void gate(int c, int i, int what) {
        same("gate(" + c + ", " + i + ", " + what + ")", x.gate(c, i, what), m.gate(c, i, what));
    }

    private void output(int c, int i) {
        same("output(" + c + ", " + i + ")", x.output(c, i), m.output(c, i));
    }

    private void plain(int c) {
        int v = coins.nextInt();
        same("plain(" + c + ", " + v + ")", x.plain(c, v), m.plain(c, v));
    }

    private void garble(int c) {
        int way = pick(3);
        int kind = pick(5);
        int need = 16 * (1 + Math.max(0, m.about(c, 0)) + (way == 0 ? Math.max(0, m.about(c, 3)) : 0));
        feedBytes(Math.max(0, need - m.count(0) + (coins.nextInt(5) == 0 ? coins.nextInt(3) - 1 : 0)));
        same("garble(" + c + ", " + way + ", " + kind + ")", x.garble(c, way, kind), m.garble(c, way, kind));
    }

    private void told(int g, int what) {
        same("told(" + g + ", " + what + ")", x.told(g, what), m.told(g, what));
    }

    private void label(int g, int wire, int truth, int i) {
        same("label(" + g + ", " + wire + ", " + truth + ", " + i + ")",
                x.label(g, wire, truth, i), m.label(g, wire, truth, i));
    }

    private void row(int g, int t, int r, int i) {
        same("row(" + g + ", " + t + ", " + r + ", " + i + ")", x.row(g, t, r, i), m.row(g, t, r, i));
    }

    private void spoil(int g, int t, int r, int i) {
        int mask = coins.nextInt();
        same("spoil(" + g + ", " + t + ", " + r + ", " + i + ", " + mask + ")",
                x.spoil(g, t, r, i, mask), m.spoil(g, t, r, i, mask));
        if (coins.nextInt(3) > 0) {
            same("spoil back", x.spoil(g, t, r, i, mask), m.spoil(g, t, r, i, mask));
        }
    }

    private void choose(int g, int k, int truth) {
        same("choose(" + g + ", " + k + ", " + truth + ")", x.choose(g, k, truth), m.choose(g, k, truth));
    }

    private void encode(int g) {
        int v = coins.nextInt();
        same("encode(" + g + ", " + v + ")", x.encode(g, v), m.encode(g, v));
        if (coins.nextBoolean()) {
            workOut(g);
        }
    }

    private void lay(int g, int k) {
        int how = coins.nextInt(10) == 0 ? pick(3) : -coins.nextInt(2);
        if (how != -1) {
            feedBytes(coins.nextInt(4) == 0 ? coins.nextInt(18) : 16);
        }
        same("lay(" + g + ", " + k + ", " + how + ")", x.lay(g, k, how), m.lay(g, k, how));
    }

    private void workOut(int g) {
        same("workOut(" + g + ")", x.workOut(g), m.workOut(g));
        same("openAll(" + g + ")", x.openAll(g), m.openAll(g));
    }

    private void active(int g, int wire, int i) {
        same("active(" + g + ", " + wire + ", " + i + ")", x.active(g, wire, i), m.active(g, wire, i));
    }

    private void place(int g, int wire) {
        int kind = coins.nextInt(4) == 0 ? pick(5) : m.told(g, 2);
        int i = pick(coins.nextBoolean() ? 16 : 2);
        same("place(" + g + ", " + wire + ", " + kind + ", " + i + ")",
                x.place(g, wire, kind, i), m.place(g, wire, kind, i));
        same("status()", x.status(), m.status());
    }

    private void open(int g, int i) {
        same("open(" + g + ", " + i + ")", x.open(g, i), m.open(g, i));
    }

    private void agrees(int g) {
        int from = coins.nextInt(4) == 0 ? 65536 - coins.nextInt(10) : coins.nextInt(16);
        int to = from + coins.nextInt(10) - (rarely() ? 1 : 0);
        same("agrees(" + g + ", " + from + ", " + to + ")", x.agrees(g, from, to), m.agrees(g, from, to));
        same("count(3)", x.count(3), m.count(3));
    }

    private void count() {
        int what = pick(4);
        same("count(" + what + ")", x.count(what), m.count(what));
        same("status()", x.status(), m.status());
    }
}
