/** Promises 7 to 11: circuits from texts, their faults, what is told of them, and what they come to. */
public final class CircuitsTest {
    private static final Due due = new Due();
    private static final String SIGNS = "&|/%#^!";

    public static void main(String[] args) {
        promise7Texts();
        promise7Faults();
        promise7FaultsOfNumbers();
        promise7NothingOfAFaultStays();
        promise7Most();
        promise7LongestText();
        promise7Refused();
        promise8About();
        promise9Gate();
        promise10Output();
        promise11PlainOfEachSign();
        promise11Plain();
        due.end();
    }

    private static void promise7Texts() {
        String[] texts = {
            "1;>0", "16;>15", "  2 ; & 0 1 ; | 1 2 ; > 3  2  ", "2;!0;!2;>3", "0001;>0000", "2;&0001 01;>002",
            "2;^0 0;>2 2 2 2 2 2 2 2", "3;/0 1;%1 2;#2 3;^4 5;>6", "2;&   0     1   ;>   2",
        };
        for (String text : texts) {
            due.is("7: '" + text + "'", Bench.circuit(new GarbledWires(), text), 0);
        }
        GarbledWires x = new GarbledWires();
        due.is("7: the first number", Bench.circuit(x, "1;>0"), 0);
        due.is("7: a fault takes no number", Bench.circuit(x, "1;>1"), -1003);
        due.is("7: the second number", Bench.circuit(x, "2;>0"), 1);
        due.is("7: the tape is used up", x.count(0), 0);
        due.is("7: two circuits", x.count(1), 2);
    }

    private static void promise7Faults() {
        fault("", 0);
        fault("   ", 3);
        fault(";", 0);
        fault("x", 0);
        fault("2", 1);
        fault("2  ", 3);
        fault("2>0", 1);
        fault("2 2;>0", 2);
        fault("2;", 2);
        fault("2;;>0", 2);
        fault("2;0 1;>0", 2);
        fault("2;&0 1>2", 6);
        fault("2;&0 1", 6);
        fault("2;&0 1;", 7);
        fault("2;&0 1 1;>2", 7);
        fault("2;&0;>2", 4);
        fault("2;&0", 4);
        fault("2;&", 3);
        fault("2;&;>0", 3);
        fault("2;&&0 1;>2", 3);
        fault("2;!0 1;>2", 5);
        fault("2;!;>0", 3);
        fault("2;&0,1;>2", 4);
        fault("2;&0\t1;>2", 4);
        fault("2;\u00a60 1;>2", 2);
        fault("2;>", 3);
        fault("2;>  ", 5);
        fault("2;>0;", 4);
        fault("2;>0 >1", 5);
        fault("2;>0,1", 4);
        fault("2;>0 1 x", 7);
        fault("2;>-1", 3);
        fault("2;>0\n", 4);
        fault("2;>0\u0000", 4);
        fault("\u00b2;>0", 0);
        fault("2;*0 1;>2", 2);
        fault("2;&0:1;>2", 4);
        fault("2;>:", 3);
        fault("2;>/", 3);
    }

    private static void promise7FaultsOfNumbers() {
        fault("0;>0", 0);
        fault("17;>0", 0);
        fault("  17;>0", 2);
        fault("9999;>0", 0);
        fault("00001;>0", 0);
        fault("00012;>0", 4);
        fault("00016 ;>0", 4);
        fault("00020;>0", 4);
        fault("12345;>0", 0);
        fault("0017", 0);
        fault("2;&2 0;>2", 3);
        fault("2;&0 2;>2", 5);
        fault("2;& 2 9;>2", 4);
        fault("2;!2;>0", 3);
        fault("2;!0;!3;>0", 6);
        fault("2;!00000;>0", 7);
        fault("2;!00002;>0", 7);
        fault("2;&10000 1;>0", 3);
        fault("2;>2", 3);
        fault("2;>0 2", 5);
        fault("2;>00001", 7);
        fault("2;>0 00010 7", 9);
        fault("2;>0 12345", 5);
        fault("2;!0;>2 0003", 8);
    }

    private static void fault(String text, int place) {
        GarbledWires x = new GarbledWires();
        due.is("7: '" + text + "'", Bench.circuit(x, text), -1000 - place);
        due.is("7: none is there", x.count(1), 0);
        due.is("7: the tape is used up", x.count(0), 0);
    }

    private static void promise7NothingOfAFaultStays() {
        GarbledWires x = new GarbledWires();
        Bench.circuit(x, "3;&0 1;|0 1;!4;>0 1 2 3 x");
        due.is("7: behind a fault", Bench.circuit(x, "2;/0 1;>2"), 0);
        int[] want = {2, 1, 1, 1, 3};
        for (int what = 0; what < 5; what++) {
            due.is("7: about(0, " + what + ") behind a fault", x.about(0, what), want[what]);
        }
        due.is("7: its gate", x.gate(0, 0, 0), '/');
        due.is("7: its number among tabled ones", x.gate(0, 0, 3), 0);
        due.is("7: its output", x.output(0, 0), 2);
    }

    private static String gates(int n) {
        return "!0;".repeat(n);
    }

    private static void promise7Most() {
        GarbledWires x = new GarbledWires();
        due.is("7: 40 gates and 8 outputs", Bench.circuit(x, "16;" + gates(40) + ">55 54 53 0 0 0 0 55  "), 0);
        due.is("7: the sign of a 41st gate", Bench.circuit(x, "1;" + gates(40) + " !0;>0"), -1000 - 123);
        due.is("7: the end behind 40 gates", Bench.circuit(x, "1;" + gates(40)), -1000 - 122);
        due.is("7: the first digit of a 9th output", Bench.circuit(x, "1;>0 0 0 0 0 0 0 0  0"), -1000 - 20);
        due.is("7: a 9th output that is no wire, too", Bench.circuit(x, "1;>0 0 0 0 0 0 0 0 77777"), -1000 - 19);
        due.is("7: what is no 9th output", Bench.circuit(x, "1;>0 0 0 0 0 0 0 0 ;"), -1000 - 19);
        due.is("7: a number too high ahead of it", Bench.circuit(x, "1;>0 0 0 0 0 0 0 1 0"), -1000 - 17);
    }

    private static void promise7LongestText() {
        GarbledWires x = new GarbledWires();
        String blanks = " ".repeat(3996);
        due.is("7: a text of 4000 bytes", Bench.circuit(x, "1;" + blanks + ">0"), 0);
        GarbledWires y = new GarbledWires();
        due.is("7: a fault at the end of 4000 bytes", Bench.circuit(y, "1; >" + blanks), -5000);
    }

    private static void promise7Refused() {
        GarbledWires x = new GarbledWires();
        for (int c = 0; c < 6; c++) {
            due.is("7: circuit " + c, Bench.circuit(x, (c + 1) + ";>" + c), c);
        }
        due.is("7: a seventh", Bench.circuit(x, "1;>0"), Bench.FULL);
        due.is("7: it is told ahead of faults", Bench.circuit(x, "x"), Bench.FULL);
        due.is("7: FULL uses the tape up", x.count(0), 0);
        due.is("7: six circuits", x.count(1), 6);
        for (int c = 0; c < 6; c++) {
            due.is("7: circuit " + c + " is as it was", x.output(c, 0), c);
        }
        due.is("7: there is none behind the last", x.about(6, 0), Bench.BAD);
    }

    private static void promise8About() {
        GarbledWires x = new GarbledWires();
        Bench.circuit(x, "3;&0 1;^2 3;!4;#5 0;>6 5 4 4 1");
        Bench.circuit(x, "2;>1");
        int[][] want = {{3, 4, 5, 2, 7}, {2, 0, 1, 0, 2}};
        for (int c = 0; c < 2; c++) {
            for (int what = 0; what < 5; what++) {
                due.is("8: about(" + c + ", " + what + ")", x.about(c, what), want[c][what]);
            }
        }
        int[][] wrong = {{-1, 0}, {2, 0}, {0, -1}, {0, 5}, {Integer.MAX_VALUE, 0}, {Integer.MIN_VALUE, 0},
            {0, Integer.MAX_VALUE}, {0, Integer.MIN_VALUE}};
        for (int[] w : wrong) {
            due.is("8: about(" + w[0] + ", " + w[1] + ")", x.about(w[0], w[1]), Bench.BAD);
        }
    }

    private static void promise9Gate() {
        GarbledWires x = new GarbledWires();
        Bench.circuit(x, "2;&0 1;|2 1;^0 3;/4 0;!1;%6 5;#7 7;>8");
        int[][] want = {{'&', 0, 1, 0}, {'|', 2, 1, 1}, {'^', 0, 3, -9}, {'/', 4, 0, 2}, {'!', 1, -9, -9},
            {'%', 6, 5, 3}, {'#', 7, 7, 4}};
        for (int i = 0; i < want.length; i++) {
            for (int what = 0; what < 4; what++) {
                due.is("9: gate(0, " + i + ", " + what + ")", x.gate(0, i, what), want[i][what]);
            }
        }
        int[][] wrong = {{-1, 0, 0}, {1, 0, 0}, {0, -1, 0}, {0, 7, 0}, {0, 0, -1}, {0, 0, 4}, {0, 40, 0},
            {0, Integer.MAX_VALUE, 0}, {0, Integer.MIN_VALUE, 3}, {6, 0, 0}, {0, 0, Integer.MAX_VALUE}};
        for (int[] w : wrong) {
            due.is("9: gate(" + w[0] + ", " + w[1] + ", " + w[2] + ")", x.gate(w[0], w[1], w[2]), Bench.BAD);
        }
    }

    private static void promise10Output() {
        GarbledWires x = new GarbledWires();
        Bench.circuit(x, "2;&0 1;>2 0 2");
        due.is("10: output(0, 0)", x.output(0, 0), 2);
        due.is("10: output(0, 1)", x.output(0, 1), 0);
        due.is("10: output(0, 2)", x.output(0, 2), 2);
        int[][] wrong = {{0, -1}, {0, 3}, {0, 8}, {1, 0}, {-1, 0}, {0, Integer.MAX_VALUE}, {0, Integer.MIN_VALUE}};
        for (int[] w : wrong) {
            due.is("10: output(" + w[0] + ", " + w[1] + ")", x.output(w[0], w[1]), Bench.BAD);
        }
    }

    private static void promise11PlainOfEachSign() {
        // What each sign says of x y = 0 0, 1 0, 0 1, 1 1, input 0 being x.
        int[][] want = {{0, 0, 0, 1}, {0, 1, 1, 1}, {0, 1, 0, 0}, {1, 1, 1, 0}, {1, 0, 0, 0}, {0, 1, 1, 0},
            {1, 0, 1, 0}};
        for (int s = 0; s < SIGNS.length(); s++) {
            GarbledWires x = new GarbledWires();
            char sign = SIGNS.charAt(s);
            Bench.circuit(x, "2;" + sign + (sign == '!' ? "0" : "0 1") + ";^0 0;!3;>2 3 4");
            for (int inputs = 0; inputs < 4; inputs++) {
                due.is("11: " + sign + " of " + inputs, x.plain(0, inputs), 4 + want[s][inputs]);
            }
        }
    }

    private static void promise11Plain() {
        GarbledWires x = new GarbledWires();
        Bench.circuit(x, "16;!0;&15 16;^1 2;>15 17 0 18 18 16 2 1");
        due.is("11: none true", x.plain(0, 0), 0b00100000);
        due.is("11: input 15", x.plain(0, 1 << 15), 0b00100011);
        due.is("11: inputs 0 and 15", x.plain(0, 1 << 15 | 1), 0b00000101);
        due.is("11: inputs 1 and 2", x.plain(0, 6), 0b11100000);
        due.is("11: all true", x.plain(0, 65535), 0b11000101);
        due.is("11: bits beyond the inputs are not looked at", x.plain(0, -1), 0b11000101);
        due.is("11: these alone", x.plain(0, 0xffff0000), 0b00100000);
        Bench.circuit(x, "1;!0;>0 1");
        due.is("11: of one input", x.plain(1, 2), 2);
        due.is("11: no such circuit", x.plain(2, 0), Bench.BAD);
        due.is("11: no such circuit", x.plain(-1, 0), Bench.BAD);
        due.is("11: no blocks are made", x.count(3), 0);
        Bench.circuit(x, "1;" + "^0 0;".repeat(39) + "!39;>40 39");
        due.is("11: wires beyond the 32nd", x.plain(2, 1), 1);
    }
}
