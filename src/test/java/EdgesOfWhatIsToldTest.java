/** Boundary cases of promises 26 and 27: what is counted, and what place() was refused by. */
public final class EdgesOfWhatIsToldTest {
    private static final String COUNT =
            "0 bytes of THE TAPE, 1 CIRCUITS, 2 GARBLED ones, 3 BLOCKS made ever (6 and 4 of told() "
            + "in it).";
    private static final String STATUS = "What the latest place() was refused by; 0.";

    public static void main(String[] args) {
        Sentences.run(EdgesOfWhatIsToldTest.class);
    }

    // ---- promise 26

    @Sentence(promise = 26, says = COUNT)
    static void countFromNoneToTheMost(Due due) {
        GarbledWires x = new GarbledWires();
        for (int what = 0; what < 4; what++) {
            due.is("count(" + what + ") at first", x.count(what), 0);
        }
        for (int n = 1; n <= 6; n++) {
            Bench.circuit(x, "1;>0");
            due.is("count(1)", x.count(1), n);
            Bench.feedCoins(x, 2, n);
            x.garble(n - 1, 0, 0);
            due.is("count(2)", x.count(2), n);
        }
        Bench.circuit(x, "1;>0");
        Bench.feedCoins(x, 2, 7);
        x.garble(0, 0, 0);
        due.is("count(1) behind FULL", x.count(1), 6);
        due.is("count(2) behind FULL", x.count(2), 6);
        due.is("count(3) of no tabled gates", x.count(3), 0);
    }

    @Sentence(promise = 26, says = COUNT)
    static void countOfAFullTape(Due due) {
        GarbledWires x = new GarbledWires();
        Bench.feed(x, new byte[3999]);
        due.is("count(0)", x.count(0), 3999);
        x.feed(0, 1);
        due.is("count(0) of a full one", x.count(0), 4000);
        x.feed(0, 1);
        due.is("count(0) behind FULL", x.count(0), 4000);
        x.clear();
        due.is("count(0) behind clear()", x.count(0), 0);
    }

    @Sentence(promise = 26, says = COUNT)
    static void countOfBlocks(Due due) {
        for (int way = 0; way < 3; way++) {
            GarbledWires x = Bench.garbled(Bench.biggestText(), way, 0, 26);
            due.is("count(3) behind garble()", x.count(3), 160);
            due.is("told(0, 4) in it", x.told(0, 4), 160);
            x.workOut(0);
            due.is("count(3) behind a refused workOut()", x.count(3), 160);
            x.encode(0, 0);
            int each = way == 2 ? 80 : 40;
            for (int n = 1; n <= 3; n++) {
                x.workOut(0);
                due.is("count(3) behind workOut() number " + n, x.count(3), 160 + n * each);
                due.is("told(0, 6), the latest alone", x.told(0, 6), each);
            }
        }
    }

    @Sentence(promise = 26, says = COUNT)
    static void countOfBlocksOfMake(Due due) {
        GarbledWires x = new GarbledWires();
        int[] want = {0, 1, 1, 2, 3, 3};
        for (int what = -1; what <= 4; what++) {
            Bench.feed(x, new byte[32]);
            x.make(what, 0);
            due.is("count(3) behind make(" + what + ", 0)", x.count(3), want[what + 1]);
        }
        for (int what = 0; what < 4; what++) {
            x.make(what, 0);
            due.is("count(3) behind SHORT", x.count(3), 3);
        }
        Bench.feed(x, new byte[16]);
        x.key();
        due.is("count(3) behind key()", x.count(3), 3);
    }

    @Sentence(promise = 26, says = "BAD.")
    static void countOfNoSuchThing(Due due) {
        GarbledWires x = new GarbledWires();
        for (int what : Bench.outside(0, 3)) {
            due.is("count(" + what + ")", x.count(what), Bench.BAD);
        }
    }

    // ---- promise 27

    @Sentence(promise = 27, says = STATUS)
    static void statusAtFirstAndBehindEachPlace(Due due) {
        GarbledWires x = Bench.garbled("2;&0 1;>2", 0, 3, 27);
        due.is("status() ahead of any place()", x.status(), 0);
        x.place(1, 0, 3, 0);
        due.is("status() of BAD", x.status(), Bench.BAD);
        due.is("status() once more", x.status(), Bench.BAD);
        x.place(0, 0, 3, 0);
        due.is("status() of NULL", x.status(), Bench.NULL);
        x.encode(0, 1);
        x.place(0, 0, 4, 0);
        due.is("status() of CAST", x.status(), Bench.CAST);
        x.place(0, 0, 3, 4);
        due.is("status() of INDEX", x.status(), Bench.INDEX);
        x.place(0, 0, 3, 3);
        due.is("status() of what was not refused", x.status(), 0);
        x.place(0, 0, 3, 4);
        x.place(0, 0, 5, 4);
        due.is("status() of the latest", x.status(), Bench.BAD);
    }

    @Sentence(promise = 27, says = STATUS)
    static void statusIsOfPlaceAlone(Due due) {
        for (int refused = 0; refused < 2; refused++) {
            GarbledWires x = Bench.garbled("2;&0 1;>2", 0, 3, 27);
            x.encode(0, 1);
            int want = refused == 1 ? Bench.INDEX : 0;
            x.place(0, 0, 3, refused == 1 ? 4 : 3);
            allButPlace(x, 0);
            due.is("status() behind all other calls", x.status(), want);
            allButPlace(x, 99);
            due.is("status() behind all others, refused", x.status(), want);
        }
    }

    private static void allButPlace(GarbledWires x, int n) {
        x.feed(1, n);
        x.clear();
        x.key();
        x.make(n, 0);
        x.result(n);
        x.circuit();
        x.about(n, 0);
        x.gate(n, 0, 0);
        x.output(n, 0);
        x.plain(n, 0);
        x.garble(n, 0, 0);
        x.told(n, 0);
        x.label(n, 0, 0, 0);
        x.row(n, 0, 0, 0);
        x.spoil(n, 0, 0, 0, 0);
        x.choose(n, 0, 0);
        x.encode(n, 0);
        x.workOut(n);
        x.active(n, 0, 0);
        x.open(n, 0);
        x.openAll(n);
        x.agrees(n, 0, 1);
        x.lay(n, 0, -1);
        x.workOut(n);
        x.lay(n, 0, 0);
        x.count(n);
    }
}
