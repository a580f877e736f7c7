/** Promises 26 and 27: what is counted, and what place() was refused by. */
public final class ToldTest {
    private static final Due due = new Due();

    public static void main(String[] args) {
        promise26Count();
        promise26Blocks();
        promise27Status();
        due.end();
    }

    private static void promise26Count() {
        GarbledWires x = new GarbledWires();
        x.feed(1, 3);
        due.is("26: bytes of the tape", x.count(0), 3);
        x.clear();
        due.is("26: none", x.count(0), 0);
        Bench.circuit(x, "1;>0");
        Bench.circuit(x, "oh");
        Bench.circuit(x, "2;>0");
        due.is("26: circuits", x.count(1), 2);
        Bench.feedCoins(x, 2, 26);
        x.garble(0, 0, 0);
        x.garble(0, 0, 0);
        due.is("26: garbled ones", x.count(2), 1);
        due.is("26: blocks", x.count(3), 0);
        int[] wrong = {-1, 4, Integer.MIN_VALUE, Integer.MAX_VALUE};
        for (int what : wrong) {
            due.is("26: count(" + what + ")", x.count(what), Bench.BAD);
        }
    }

    private static void promise26Blocks() {
        GarbledWires x = new GarbledWires();
        int[] made = {1, 1, 2, 3};
        for (int what = 0; what < 4; what++) {
            Bench.feedCoins(x, 2, what);
            x.make(what, 0);
            due.is("26: blocks with make(" + what + ")", x.count(3), made[what]);
        }
        Bench.feedCoins(x, 1, 0);
        x.key();
        due.is("26: key() makes none", x.count(3), 3);
        Bench.circuit(x, "2;&0 1;^0 1;|0 2;>4");
        int all = 3;
        for (int way = 0; way < 3; way++) {
            Bench.feedCoins(x, 5, way);
            x.garble(0, way, 0);
            all += 8;
            due.is("26: blocks with garble()", x.count(3), all);
            x.encode(way, 1);
            x.workOut(way);
            all += way == 2 ? 4 : 2;
            due.is("26: blocks with workOut()", x.count(3), all);
            x.openAll(way);
            x.plain(0, 1);
            due.is("26: opening makes none", x.count(3), all);
            x.agrees(way, 1, 4);
            all += 3 * (way == 2 ? 4 : 2);
            due.is("26: blocks with agrees()", x.count(3), all);
        }
    }

    private static void promise27Status() {
        GarbledWires x = new GarbledWires();
        due.is("27: at first", x.status(), 0);
        x.place(0, 0, 0, 0);
        due.is("27: BAD", x.status(), Bench.BAD);
        due.is("27: it stays", x.status(), Bench.BAD);
        Bench.circuit(x, "1;>0");
        Bench.feedCoins(x, 2, 27);
        x.garble(0, 0, 3);
        due.is("27: other calls leave it", x.status(), Bench.BAD);
        x.place(0, 0, 3, 0);
        due.is("27: NULL", x.status(), Bench.NULL);
        x.encode(0, 0);
        x.place(0, 0, 2, 0);
        due.is("27: CAST", x.status(), Bench.CAST);
        x.place(0, 0, 3, 4);
        due.is("27: INDEX", x.status(), Bench.INDEX);
        x.told(7, 7);
        x.active(0, 0, 99);
        due.is("27: other refused calls leave it", x.status(), Bench.INDEX);
        x.place(0, 0, 3, 3);
        due.is("27: not refused", x.status(), 0);
    }
}
