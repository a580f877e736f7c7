import java.io.ByteArrayOutputStream;
import java.util.ArrayList;
import java.util.Arrays;
import java.util.List;
import java.util.function.IntBinaryOperator;

/** The document once more, as slow and as literal as can be, over the Java library: what ModelTest compares with. */
final class Model {
    private static final int BAD = -1, FULL = -2, STATE = -3, SHORT = -4;
    private static final int NULL = -11, CAST = -13, INDEX = -12, NONE = -9;
    private static final String SIGNS = "&|/%#^!";
    private static final List<IntBinaryOperator> TRUTHS = List.of((x, y) -> x == 1 && y == 1 ? 1 : 0,
            (x, y) -> x + y >= 1 ? 1 : 0, (x, y) -> x == 1 && y == 0 ? 1 : 0, (x, y) -> x == 1 && y == 1 ? 0 : 1,
            (x, y) -> x + y == 0 ? 1 : 0, (x, y) -> x + y == 1 ? 1 : 0, (x, y) -> x == 0 ? 1 : 0);
    private static final int[][] FGH = {{0, 0, 0}, {1, 1, 1}, {0, 1, 0}, {0, 0, 1}, {1, 1, 0}};
    private static final int[] LENGTHS = {16, 8, 8, 4, 2};

    private record Gate(char sign, int a, int b, int t) {
        boolean tabled() {
            return t != NONE;
        }

        int of(int x, int y) {
            return TRUTHS.get(SIGNS.indexOf(sign)).applyAsInt(x, y);
        }
    }

    private static final class Net {
        int inputs;
        int tabled;
        final List<Gate> gates = new ArrayList<>();
        final List<Integer> outputs = new ArrayList<>();

        int wires() {
            return inputs + gates.size();
        }
    }

    private static final class Fault extends RuntimeException {
        private static final long serialVersionUID = 1L;
        final int place;

        Fault(int place) {
            this.place = place;
        }
    }

    private static final class One {
        int circuit;
        Net net;
        int way;
        int kind;
        byte[] delta;
        final List<byte[]> zeros = new ArrayList<>();
        final List<byte[][]> rows = new ArrayList<>();
        byte[][] run;
        int garbleBlocks;
        int workBlocks;

        byte[] label(int wire, int truth) {
            return truth == 0 ? zeros.get(wire) : Bench.xor(zeros.get(wire), delta);
        }

        byte[] coloured(int wire, int colour) {
            return label(wire, truthOfColour(wire, colour));
        }

        int truthOfColour(int wire, int colour) {
            return Bench.colour(label(wire, 0)) == colour ? 0 : 1;
        }
    }

    private final ByteArrayOutputStream tape = new ByteArrayOutputStream();
    private final List<Net> nets = new ArrayList<>();
    private final List<One> ones = new ArrayList<>();
    private byte[] key = new byte[16];
    private byte[] result = new byte[16];
    private int blocks;
    private int status;

    private byte[] takeTape() {
        byte[] all = tape.toByteArray();
        tape.reset();
        return all;
    }

    private byte[] hash(byte[] a, byte[] b, int t) {
        blocks++;
        return Bench.hash(key, a, b, t);
    }

    private Net net(int i) {
        return i >= 0 && i < nets.size() ? nets.get(i) : null;
    }

    private One one(int i) {
        return i >= 0 && i < ones.size() ? ones.get(i) : null;
    }

    int feed(long v, int n) {
        if (n < 1 || n > 8) return BAD;
        if (tape.size() + n > 4000) return FULL;
        for (int i = n - 1; i >= 0; i--) tape.write((int) (v >> 8 * i));
        return tape.size();
    }

    int clear() {
        return takeTape().length;
    }

    int key() {
        byte[] t = takeTape();
        if (!ones.isEmpty()) return STATE;
        if (t.length < 16) return SHORT;
        key = Arrays.copyOf(t, 16);
        return 1;
    }

    int make(int what, int t) {
        byte[] all = takeTape();
        if (what < 0 || what > 3) return BAD;
        if (all.length < (what == 3 ? 32 : 16)) return SHORT;
        byte[] a = Arrays.copyOf(all, 16);
        if (what == 0) {
            blocks++;
            result = Bench.block(key, a);
        } else if (what == 1) {
            result = Bench.twice(a);
        } else {
            result = hash(a, what == 2 ? null : Arrays.copyOfRange(all, 16, 32), t);
        }
        return 1;
    }

    int result(int i) {
        return i < 0 || i > 15 ? BAD : result[i] & 255;
    }

    int circuit() {
        byte[] text = takeTape();
        if (nets.size() == 6) return FULL;
        try {
            nets.add(parse(new String(text, java.nio.charset.StandardCharsets.ISO_8859_1)));
            return nets.size() - 1;
        } catch (Fault f) {
            return -1000 - f.place;
        }
    }

    private static Net parse(String s) {
        Net net = new Net();
        int[] at = {0};
        net.inputs = number(s, at, 1, 16);
        mark(s, at, ';');
        while (peek(s, at) != '>') {
            char sign = (char) peek(s, at);
            if (SIGNS.indexOf(sign) < 0 || net.gates.size() == 40) throw new Fault(at[0]);
            at[0]++;
            int a = number(s, at, 0, net.wires() - 1);
            int b = sign == '!' ? NONE : number(s, at, 0, net.wires() - 1);
            mark(s, at, ';');
            net.gates.add(new Gate(sign, a, b, "^!".indexOf(sign) < 0 ? net.tabled++ : NONE));
        }
        at[0]++;
        do {
            if (net.outputs.size() == 8) {
                peek(s, at);
                throw new Fault(at[0]);
            }
            net.outputs.add(number(s, at, 0, net.wires() - 1));
        } while (peek(s, at) != 0xffff);
        return net;
    }

    private static int peek(String s, int[] at) {
        while (at[0] < s.length() && s.charAt(at[0]) == ' ') at[0]++;
        return at[0] < s.length() ? s.charAt(at[0]) : 0xffff;
    }

    private static void mark(String s, int[] at, char c) {
        if (peek(s, at) != c) throw new Fault(at[0]);
        at[0]++;
    }

    private static int number(String s, int[] at, int low, int high) {
        peek(s, at);
        int start = at[0];
        String digits = "";
        while (digits.length() < 4 && at[0] < s.length() && "0123456789".indexOf(s.charAt(at[0])) >= 0) {
            digits += s.charAt(at[0]++);
        }
        if (digits.isEmpty()) throw new Fault(start);
        int value = Integer.parseInt(digits);
        if (value < low || value > high) throw new Fault(start);
        if (at[0] < s.length() && "0123456789".indexOf(s.charAt(at[0])) >= 0) throw new Fault(at[0]);
        return value;
    }

    int about(int circuit, int what) {
        Net n = net(circuit);
        if (n == null || what < 0 || what > 4) return BAD;
        return new int[] {n.inputs, n.gates.size(), n.outputs.size(), n.tabled, n.wires()}[what];
    }

    int gate(int circuit, int i, int what) {
        Net n = net(circuit);
        if (n == null || i < 0 || i >= n.gates.size() || what < 0 || what > 3) return BAD;
        Gate g = n.gates.get(i);
        return new int[] {g.sign, g.a, g.b, g.t}[what];
    }

    int output(int circuit, int i) {
        Net n = net(circuit);
        return n == null || i < 0 || i >= n.outputs.size() ? BAD : n.outputs.get(i);
    }

    int plain(int circuit, int inputs) {
        Net n = net(circuit);
        if (n == null) return BAD;
        List<Integer> truths = new ArrayList<>();
        for (int k = 0; k < n.inputs; k++) truths.add(inputs >> k & 1);
        for (Gate g : n.gates) truths.add(g.of(truths.get(g.a), g.b == NONE ? 0 : truths.get(g.b)));
        int all = 0;
        for (int o = 0; o < n.outputs.size(); o++) all += truths.get(n.outputs.get(o)) << o;
        return all;
    }

    int garble(int circuit, int way, int kind) {
        byte[] t = takeTape();
        Net n = net(circuit);
        if (n == null || way < 0 || way > 2 || kind < 0 || kind > 4) return BAD;
        if (ones.size() == 6) return FULL;
        int need = 1 + n.inputs + (way == 0 ? n.tabled : 0);
        if (t.length < 16 * need) return SHORT;
        List<byte[]> coins = new ArrayList<>();
        for (int c = 0; c < need; c++) coins.add(Arrays.copyOfRange(t, 16 * c, 16 * c + 16));
        One g = new One();
        g.circuit = circuit;
        g.net = n;
        g.way = way;
        g.kind = kind;
        g.delta = coins.remove(0);
        g.delta[15] |= 1;
        for (int k = 0; k < n.inputs; k++) g.zeros.add(coins.remove(0));
        g.run = new byte[n.wires()][];
        int before = blocks;
        for (Gate gate : n.gates) garbleGate(g, gate, coins);
        g.garbleBlocks = blocks - before;
        ones.add(g);
        return ones.size() - 1;
    }

    private void garbleGate(One g, Gate gate, List<byte[]> coins) {
        if (gate.sign == '!') {
            g.zeros.add(g.label(gate.a, 1));
        } else if (gate.sign == '^') {
            g.zeros.add(Bench.xor(g.label(gate.a, 0), g.label(gate.b, 0)));
        } else if (g.way == 2) {
            garbleHalves(g, gate);
        } else {
            garbleFour(g, gate, coins);
        }
    }

    private void garbleFour(One g, Gate gate, List<byte[]> coins) {
        byte[][] hashes = new byte[4][];
        int[] truths = new int[4];
        for (int p = 0; p < 2; p++) {
            for (int q = 0; q < 2; q++) {
                hashes[2 * p + q] = hash(g.coloured(gate.a, p), g.coloured(gate.b, q), gate.t);
                truths[2 * p + q] = gate.of(g.truthOfColour(gate.a, p), g.truthOfColour(gate.b, q));
            }
        }
        byte[] zero = g.way == 0 ? coins.remove(0) : truths[0] == 0 ? hashes[0] : Bench.xor(hashes[0], g.delta);
        g.zeros.add(zero);
        byte[][] rows = new byte[4][];
        for (int r = 0; r < 4; r++) {
            rows[r] = Bench.xor(hashes[r], g.label(g.zeros.size() - 1, truths[r]));
        }
        if (g.way == 1) rows[0] = null;
        g.rows.add(rows);
    }

    private void garbleHalves(One g, Gate gate) {
        int[] fgh = FGH[SIGNS.indexOf(gate.sign)];
        byte[] a = g.label(gate.a, fgh[0]);
        byte[] b = g.label(gate.b, fgh[1]);
        byte[] ha = hash(a, null, 2 * gate.t);
        byte[] hb = hash(b, null, 2 * gate.t + 1);
        byte[] row0 = Bench.xor(ha, hash(g.label(gate.a, 1 - fgh[0]), null, 2 * gate.t));
        byte[] row1 = Bench.xor(hb, hash(g.label(gate.b, 1 - fgh[1]), null, 2 * gate.t + 1));
        if (Bench.colour(b) == 1) row0 = Bench.xor(row0, g.delta);
        row1 = Bench.xor(row1, a);
        byte[] made = Bench.colour(a) == 1 ? Bench.xor(ha, row0) : ha;
        made = Bench.xor(made, hb);
        if (Bench.colour(b) == 1) made = Bench.xor(Bench.xor(made, row1), a);
        g.zeros.add(fgh[2] == 0 ? made : Bench.xor(made, g.delta));
        g.rows.add(new byte[][] {row0, row1, null, null});
    }

    int told(int garbled, int what) {
        One g = one(garbled);
        if (g == null || what < 0 || what > 6) return BAD;
        int stored = 0;
        for (byte[][] rows : g.rows) for (byte[] row : rows) stored += row == null ? 0 : 1;
        int labelled = 0;
        for (byte[] label : g.run) labelled += label == null ? 0 : 1;
        return new int[] {g.circuit, g.way, g.kind, stored, g.garbleBlocks, labelled, g.workBlocks}[what];
    }

    int label(int garbled, int wire, int truth, int i) {
        One g = one(garbled);
        if (g == null || i < 0 || i > 15 || wire < -1 || wire >= g.net.wires()) return BAD;
        if (wire == -1) return g.delta[i] & 255;
        if (truth != 0 && truth != 1) return BAD;
        return g.label(wire, truth)[i] & 255;
    }

    int row(int garbled, int t, int r, int i) {
        One g = one(garbled);
        if (g == null || t < 0 || t >= g.rows.size() || r < 0 || r > 3 || i < 0 || i > 15) return BAD;
        return g.rows.get(t)[r] == null ? NONE : g.rows.get(t)[r][i] & 255;
    }

    int spoil(int garbled, int t, int r, int i, int mask) {
        if (row(garbled, t, r, i) < 0) return BAD;
        byte[] row = one(garbled).rows.get(t)[r];
        row[i] ^= (byte) mask;
        return row[i] & 255;
    }

    private void forget(One g) {
        for (int w = g.net.inputs; w < g.net.wires(); w++) g.run[w] = null;
    }

    int choose(int garbled, int k, int truth) {
        One g = one(garbled);
        if (g == null || k < 0 || k >= g.net.inputs || truth < 0 || truth > 1) return BAD;
        g.run[k] = g.label(k, truth);
        forget(g);
        return 1;
    }

    int encode(int garbled, int inputs) {
        One g = one(garbled);
        if (g == null) return BAD;
        for (int k = 0; k < g.net.inputs; k++) g.run[k] = g.label(k, inputs >> k & 1);
        forget(g);
        return g.net.inputs;
    }

    int lay(int garbled, int k, int how) {
        byte[] t = how == -1 ? null : takeTape();
        One g = one(garbled);
        if (g == null || k < 0 || k >= g.net.inputs || how != 0 && how != -1) return BAD;
        if (t != null && t.length < 16) return SHORT;
        g.run[k] = t == null ? null : Arrays.copyOf(t, 16);
        forget(g);
        return 1;
    }

    int workOut(int garbled) {
        One g = one(garbled);
        if (g == null) return BAD;
        for (int k = 0; k < g.net.inputs; k++) if (g.run[k] == null) return NULL;
        int before = blocks;
        work(g, g.run);
        g.workBlocks = blocks - before;
        return g.net.gates.size();
    }

    private void work(One g, byte[][] run) {
        int wire = g.net.inputs;
        for (Gate gate : g.net.gates) {
            byte[] a = run[gate.a];
            byte[] b = gate.b == NONE ? null : run[gate.b];
            run[wire++] = gate.sign == '!' ? a : gate.sign == '^' ? Bench.xor(a, b) : workTabled(g, gate, a, b);
        }
    }

    private byte[] workTabled(One g, Gate gate, byte[] a, byte[] b) {
        byte[][] rows = g.rows.get(gate.t);
        int p = Bench.colour(a);
        int q = Bench.colour(b);
        if (g.way != 2) {
            byte[] row = rows[2 * p + q] == null ? new byte[16] : rows[2 * p + q];
            return Bench.xor(hash(a, b, gate.t), row);
        }
        byte[] made = Bench.xor(hash(a, null, 2 * gate.t), hash(b, null, 2 * gate.t + 1));
        if (p == 1) made = Bench.xor(made, rows[0]);
        return q == 1 ? Bench.xor(Bench.xor(made, rows[1]), a) : made;
    }

    int active(int garbled, int wire, int i) {
        One g = one(garbled);
        if (g == null || wire < 0 || wire >= g.net.wires() || i < 0 || i > 15) return BAD;
        return g.run[wire] == null ? NULL : g.run[wire][i] & 255;
    }

    long place(int garbled, int wire, int kind, int i) {
        One g = one(garbled);
        if (g == null || wire < 0 || wire >= g.net.wires() || kind < 0 || kind > 4) status = BAD;
        else if (g.run[wire] == null) status = NULL;
        else if (kind != g.kind) status = CAST;
        else if (i < 0 || i >= LENGTHS[kind]) status = INDEX;
        else status = 0;
        if (status != 0) return 0;
        java.nio.ByteBuffer all = java.nio.ByteBuffer.wrap(g.run[wire]);
        if (kind == 0) return all.get(i);
        if (kind == 1) return all.getShort(2 * i);
        if (kind == 2) return all.getChar(2 * i);
        return kind == 3 ? all.getInt(4 * i) : all.getLong(8 * i);
    }

    private int opened(One g, byte[][] run, int wire) {
        return Arrays.equals(run[wire], g.label(wire, 0)) ? 0 : Arrays.equals(run[wire], g.label(wire, 1)) ? 1 : 2;
    }

    private int openedAll(One g, byte[][] run) {
        int all = 0;
        for (int w : g.net.outputs) if (run[w] == null) return NULL;
        for (int o = 0; o < g.net.outputs.size(); o++) {
            int truth = opened(g, run, g.net.outputs.get(o));
            if (truth == 2) return -100 - o;
            all += truth << o;
        }
        return all;
    }

    int open(int garbled, int i) {
        One g = one(garbled);
        if (g == null || i < 0 || i >= g.net.outputs.size()) return BAD;
        int wire = g.net.outputs.get(i);
        return g.run[wire] == null ? NULL : opened(g, g.run, wire);
    }

    int openAll(int garbled) {
        One g = one(garbled);
        return g == null ? BAD : openedAll(g, g.run);
    }

    int agrees(int garbled, int from, int to) {
        One g = one(garbled);
        if (g == null || from < 0 || to < from || to > 65536 || to - from > 8) return BAD;
        for (int v = from; v < to; v++) {
            byte[][] run = new byte[g.net.wires()][];
            for (int k = 0; k < g.net.inputs; k++) run[k] = g.label(k, v >> k & 1);
            work(g, run);
            if (openedAll(g, run) != plain(g.circuit, v)) return 0;
        }
        return 1;
    }

    int count(int what) {
        return what < 0 || what > 3 ? BAD : new int[] {tape.size(), nets.size(), ones.size(), blocks}[what];
    }

    int status() {
        return status;
    }
}
