/** Boundary cases of promises 7 to 11: the texts of circuits, their faults, and what is told of circuits. */
public final class EdgesOfCircuitsTest {
    private static final String USED_UP = "what reads it (whether refused or not) uses it up";
    private static final String NOTHING_CHANGES = "Refused, and nothing changes but THE TAPE";
    private static final String SIGNS = "&|/%#^!";

    public static void main(String[] args) {
        Sentences.run(EdgesOfCircuitsTest.class);
    }

    /** The text is a circuit. */
    private static GarbledWires fine(Due due, String text) {
        GarbledWires x = new GarbledWires();
        due.is("circuit() of '" + text + "'", Bench.circuit(x, text), 0);
        due.is("count(1)", x.count(1), 1);
        return x;
    }

    /** The text has a fault at that place. */
    private static void fault(Due due, String text, int place) {
        GarbledWires x = new GarbledWires();
        due.is("circuit() of '" + text + "'", Bench.circuit(x, text), -1000 - place);
        due.is("count(1)", x.count(1), 0);
    }

    private static String gates(int n) {
        return "!0;".repeat(n);
    }

    private static String outputs(int n) {
        return "0 ".repeat(n);
    }

    // ---- promise 7

    @Sentence(promise = 7, says = "A CIRCUIT (6 at most; numbers from 0 on) is a TEXT on it")
    static void circuitsUpToSix(Due due) {
        GarbledWires x = new GarbledWires();
        for (int c = 0; c < 6; c++) {
            due.is("circuit " + c, Bench.circuit(x, (c + 1) + ";>" + c), c);
            due.is("count(1)", x.count(1), c + 1);
        }
        due.is("a seventh", Bench.circuit(x, "7;>6"), Bench.FULL);
        due.is("an eighth", Bench.circuit(x, "7;>6"), Bench.FULL);
        due.is("count(1)", x.count(1), 6);
    }

    @Sentence(promise = 7, says = "THE TAPE is read as a CIRCUIT: its number.")
    static void circuitOfTheShortestAndTheLongestText(Due due) {
        fine(due, "1;>0");
        fault(due, "", 0);
        fine(due, "1;>0" + " ".repeat(3996));
        fine(due, " ".repeat(3996) + "1;>0");
        fine(due, "1;>" + " ".repeat(3996) + "0");
    }

    @Sentence(promise = 7, says = "THE TAPE is read as a CIRCUIT: its number.")
    static void circuitAfterAFaultTakesTheNextNumber(Due due) {
        GarbledWires x = new GarbledWires();
        Bench.circuit(x, "x");
        due.is("the first", Bench.circuit(x, "1;>0"), 0);
        Bench.circuit(x, "1;>1");
        due.is("the second", Bench.circuit(x, "1;>0"), 1);
    }

    @Sentence(promise = 7, says = "FULL; FAULT.")
    static void circuitIsFullAheadOfAFault(Due due) {
        GarbledWires x = new GarbledWires();
        for (int c = 0; c < 5; c++) {
            Bench.circuit(x, "1;>0");
        }
        due.is("a fault where five are", Bench.circuit(x, "1;>1"), -1003);
        due.is("a sixth", Bench.circuit(x, "1;>0"), 5);
        due.is("a fault where six are", Bench.circuit(x, "1;>1"), Bench.FULL);
        due.is("an empty text where six are", x.circuit(), Bench.FULL);
    }

    @Sentence(promise = 7, says = USED_UP)
    static void circuitUsesTheTapeUp(Due due) {
        GarbledWires x = new GarbledWires();
        Bench.circuit(x, "xxxxxxxxx");
        due.is("count(0) behind a fault", x.count(0), 0);
        for (int c = 0; c < 6; c++) {
            Bench.circuit(x, "1;>0");
            due.is("count(0) behind a circuit", x.count(0), 0);
        }
        Bench.circuit(x, "1;>0");
        due.is("count(0) behind FULL", x.count(0), 0);
    }

    @Sentence(promise = 7, says = USED_UP)
    static void circuitReadsNothingOfAnOlderText(Due due) {
        GarbledWires x = new GarbledWires();
        Bench.circuit(x, "1;>0 0 0 0");
        due.is("a text that ends where the older one went on", Bench.circuit(x, "1;>"), -1003);
        due.is("another", Bench.circuit(x, "1;"), -1002);
        due.is("an empty one", x.circuit(), -1000);
    }

    @Sentence(promise = 7, says = NOTHING_CHANGES)
    static void circuitRefusedChangesNothing(Due due) {
        GarbledWires x = new GarbledWires();
        Bench.circuit(x, "3;&0 1;|0 1;!4;>5 4 3");
        String before = Bench.traces(x);
        Bench.circuit(x, "2;/0 1;#0 1;%0 1;>1 1 1 1 x");
        due.holds("all is as before a fault", before.equals(Bench.traces(x)));
        due.is("the circuit that was there", x.plain(0, 3), 0b110);
        due.is("there is none behind it", x.about(1, 0), Bench.BAD);
        Bench.circuit(x, "1;>0");
        int[] want = {1, 0, 1, 0, 1};
        for (int what = 0; what < 5; what++) {
            due.is("about(1, " + what + ") of the next one", x.about(1, what), want[what]);
        }
        due.is("it has no gate", x.gate(1, 0, 0), Bench.BAD);
        due.is("it has one output", x.output(1, 1), Bench.BAD);
    }

    @Sentence(promise = 7, says = NOTHING_CHANGES)
    static void circuitFullChangesNothing(Due due) {
        GarbledWires x = new GarbledWires();
        for (int c = 0; c < 6; c++) {
            Bench.circuit(x, (c + 1) + ";>" + c);
        }
        Bench.circuit(x, "9;!0;>8 8 8");
        for (int c = 0; c < 6; c++) {
            due.is("about(" + c + ", 0)", x.about(c, 0), c + 1);
            due.is("about(" + c + ", 1)", x.about(c, 1), 0);
            due.is("output(" + c + ", 0)", x.output(c, 0), c);
        }
        due.is("about(6, 0)", x.about(6, 0), Bench.BAD);
    }

    private static final String BLANKS = "Blanks (32) may stand between any two of these and ahead of and behind all, "
            + "one at least between two numbers.";

    @Sentence(promise = 7, says = BLANKS)
    static void blanksEverywhereAndNowhere(Due due) {
        String[] texts = {"2;&0 1;!2;>3 0", "   2   ;   &   0   1   ;   !   2   ;   >   3   0   "};
        for (String text : texts) {
            GarbledWires x = fine(due, text);
            due.is("gates", x.about(0, 1), 2);
            due.is("outputs", x.about(0, 2), 2);
            due.is("the last wire", x.gate(0, 0, 2), 1);
            due.is("the first output", x.output(0, 0), 3);
            due.is("the last output", x.output(0, 1), 0);
        }
        String text = "2;&0 1;!2;>3 0";
        for (int at = 0; at <= text.length(); at++) {
            fine(due, text.substring(0, at) + " " + text.substring(at));
        }
    }

    @Sentence(promise = 7, says = BLANKS)
    static void blanksBetweenNumbers(Due due) {
        fault(due, "2;&01;>2", 5);
        due.is("outputs without a blank are one", fine(due, "2;>01").about(0, 2), 1);
        due.is("outputs with a blank are two", fine(due, "2;>0 1").about(0, 2), 2);
        fault(due, "1 1;>0", 2);
        fault(due, "11;&1 0 0;>1", 8);
        fault(due, "12;!1 1;>1", 6);
    }

    @Sentence(promise = 7, says = BLANKS)
    static void noOtherByteIsABlank(Due due) {
        for (int b = 0; b < 256; b++) {
            char c = (char) b;
            if (c != ' ' && (c < '0' || c > '9')) {
                fault(due, "2;&0" + c + "1;>2", 4);
                fault(due, c + "2;&0 1;>2", 0);
                fault(due, "2;&0 1;>2" + c, 9);
                fault(due, "2;&0 1;>2 " + c, 10);
            }
        }
    }

    @Sentence(promise = 7, says = "COUNT: how many INPUTS, 1 .. 16: WIRES 0, 1, ..")
    static void countOfInputs(Due due) {
        for (int n = 1; n <= 16; n++) {
            due.is("about(0, 0)", fine(due, n + ";>" + (n - 1)).about(0, 0), n);
            fault(due, n + ";>" + n, n < 10 ? 3 : 4);
        }
        String[] wrong = {"0", "17", "00", "000", "0000", "017", "0017", "18", "99", "256", "257", "9999"};
        for (String count : wrong) {
            fault(due, count + ";>0", 0);
            fault(due, "  " + count + " ;>0", 2);
            fault(due, count, 0);
        }
        fine(due, "0016;>0015");
        fine(due, "0001;>0000");
    }

    private static final String NEXT_WIRE =
            "each GATE makes the next WIRE: a SIGN, then two WIRES that are there already "
            + "(one behind ! alone).";

    @Sentence(promise = 7, says = NEXT_WIRE)
    static void gatesTakeWiresThatAreThere(Due due) {
        for (char sign : "&|/%#^".toCharArray()) {
            fine(due, "1;" + sign + "0 0;" + sign + "1 1;>2");
            fine(due, "16;" + sign + "15 15;" + sign + "16 16;>17");
            fault(due, "1;" + sign + "1 0;>0", 3);
            fault(due, "1;" + sign + "0 1;>0", 5);
            fault(due, "1;" + sign + "0 0;" + sign + "2 0;>0", 8);
            fault(due, "1;" + sign + "0 0;" + sign + "0 2;>0", 10);
            fault(due, "16;" + sign + "16 0;>0", 4);
            fault(due, "16;" + sign + "0 16;>0", 6);
        }
        fine(due, "1;!0;!1;>2");
        fault(due, "1;!1;>0", 3);
        fault(due, "1;!0;!2;>0", 6);
        fault(due, "16;!16;>0", 4);
    }

    @Sentence(promise = 7, says = NEXT_WIRE)
    static void theLastGateAndTheOutputsTakeTheLastWires(Due due) {
        String text = "16;" + gates(39);
        fine(due, text + "&54 54;>55");
        fault(due, text + "&55 0;>0", text.length() + 1);
        fault(due, text + "&0 55;>0", text.length() + 3);
        fault(due, text + "!55;>0", text.length() + 1);
        fault(due, text + "!0;>56", text.length() + 4);
        fault(due, text + "!0;>55 56", text.length() + 7);
    }

    @Sentence(promise = 7, says = NEXT_WIRE)
    static void oneWireBehindNotAndTwoBehindTheOthers(Due due) {
        for (char sign : "&|/%#^".toCharArray()) {
            fault(due, "2;" + sign + ";>0", 3);
            fault(due, "2;" + sign + "0;>0", 4);
            fault(due, "2;" + sign + "0 ;>0", 5);
            fine(due, "2;" + sign + "0 1;>0");
            fault(due, "2;" + sign + "0 1 0;>0", 7);
            fault(due, "2;" + sign + sign + "0 1;>0", 3);
        }
        fault(due, "2;!;>0", 3);
        fine(due, "2;!0;>0");
        fault(due, "2;!0 1;>0", 5);
        fault(due, "2;!!0;>0", 3);
    }

    private static final String ENDS =
            "> ends the GATES (40 at most, perhaps none; the ; behind the last GATE, or COUNT, "
            + "stands), and 1 to 8 WIRES, the OUTPUTS, follow (one may come more than once).";

    @Sentence(promise = 7, says = ENDS)
    static void gatesNoneAndForty(Due due) {
        due.is("no gates", fine(due, "1;>0").about(0, 1), 0);
        due.is("39 gates", fine(due, "1;" + gates(39) + ">39").about(0, 1), 39);
        due.is("40 gates", fine(due, "1;" + gates(40) + ">40").about(0, 1), 40);
        due.is("40 gates of 16", fine(due, "16;" + gates(40) + ">55").about(0, 4), 56);
        due.is("40 tabled gates", fine(due, Bench.biggestText()).about(0, 3), 40);
        fault(due, "1;" + gates(41) + ">0", 122);
        fault(due, "1;" + gates(400) + ">0", 122);
    }

    @Sentence(promise = 7, says = ENDS)
    static void theSemicolonStands(Due due) {
        fault(due, "1>0", 1);
        fault(due, "1 >0", 2);
        fault(due, "1;!0>1", 4);
        fault(due, "1;!0 >1", 5);
        fault(due, "1;!0!1;>1", 4);
        fault(due, "1;;>0", 2);
        fault(due, "1;!0;;>0", 5);
        fault(due, ";1;>0", 0);
        fault(due, "1;" + gates(39) + "!0>0", 2 + 3 * 39 + 2);
    }

    @Sentence(promise = 7, says = ENDS)
    static void outputsOneToEight(Due due) {
        fault(due, "1;>", 3);
        fault(due, "1;>  ", 5);
        for (int n = 1; n <= 8; n++) {
            GarbledWires x = fine(due, "1;>" + outputs(n));
            due.is("about(0, 2)", x.about(0, 2), n);
        }
        fine(due, "1;>" + outputs(7) + "0");
        fault(due, "1;>" + outputs(9), 19);
        fault(due, "1;>" + outputs(400), 19);
        fault(due, "1;>>0", 3);
        fault(due, "1;>0>", 4);
        fault(due, "1;>0;", 4);
    }

    private static final String DIGITS =
            "Of a number's digits 1 to 4 are read (leading 0s, too); what is wrong with these "
            + "is told first.";

    @Sentence(promise = 7, says = DIGITS)
    static void numbersOfOneToFourDigits(Due due) {
        String zeros = "";
        for (int n = 1; n <= 4; n++) {
            GarbledWires x = fine(due, zeros + "2;&" + zeros + "0 " + zeros + "1;>" + zeros + "2");
            due.is("inputs", x.about(0, 0), 2);
            due.is("a wire", x.gate(0, 0, 2), 1);
            due.is("an output", x.output(0, 0), 2);
            zeros += "0";
        }
        fine(due, "16;" + gates(40) + ">0055");
    }

    @Sentence(promise = 7, says = DIGITS)
    static void numbersOfFiveDigits(Due due) {
        fault(due, "00010;>0", 4);
        fault(due, "00162;>0", 4);
        fault(due, "00012", 4);
        fault(due, "2;!00010;>0", 7);
        fault(due, "2;&00010 0;>0", 7);
        fault(due, "2;&0 00010;>0", 9);
        fault(due, "2;>00000", 7);
        fault(due, "2;>0 00010 0", 9);
        fault(due, "2;>" + "0".repeat(3997), 7);
    }

    @Sentence(promise = 7, says = DIGITS)
    static void wrongNumbersOfFiveDigits(Due due) {
        fault(due, "00001;>0", 0);
        fault(due, "00170;>0", 0);
        fault(due, "12345;>0", 0);
        fault(due, "10000;>0", 0);
        fault(due, "0".repeat(4000), 0);
        fault(due, "2;!00020;>0", 3);
        fault(due, "2;&00020 0;>0", 3);
        fault(due, "2;&0 00020;>0", 5);
        fault(due, "2;>00020", 3);
        fault(due, "2;>0 99999", 5);
        fault(due, "2;>4294967296", 3);
        fault(due, "2;>18446744073709551616", 3);
    }

    private static final String FIRST_BYTE =
            "-1000 less the place (the first byte is 0) of the first byte that cannot stand";

    @Sentence(promise = 7, says = FIRST_BYTE)
    static void faultsAtTheFirstAndTheLastPlace(Due due) {
        fault(due, "x", 0);
        fault(due, "x;>0", 0);
        fault(due, "1;>0" + " ".repeat(3995) + "x", 3999);
        fault(due, " ".repeat(3999) + "x", 3999);
        fault(due, " ".repeat(3999) + "0", 3999);
        fault(due, "1;>0x0x", 4);
        fault(due, "1;x0;x", 2);
    }

    /** Where several cannot stand, the first is told, and what comes behind it does not matter. */
    @Sentence(promise = 7, says = FIRST_BYTE)
    static void faultsOfWhichTheFirstIsTold(Due due) {
        fault(due, "0;&9 9;>9", 0);
        fault(due, "17x&9 9x>9", 0);
        fault(due, "2x&9 9;>9", 1);
        fault(due, "2;&9 9;>9", 3);
        fault(due, "2;&x x;>x", 3);
        fault(due, "2;&00010 9;>9", 7);
        fault(due, "2;&0 9>9", 5);
        fault(due, "2;&0 1>9", 6);
        fault(due, "2;&0 1;&9 9;>9", 8);
        fault(due, "2;&0 1;>9 9 9", 8);
        fault(due, "2;&0 1;>0 9 x", 10);
        fault(due, "2;!9 9;>9", 3);
        fault(due, "2;!0 9;>9", 5);
        fault(due, "2;&;!;>", 3);
    }

    /** A byte beyond 127 is no sign of a lower number, and the signs' neighbours are none. */
    @Sentence(promise = 7, says = FIRST_BYTE)
    static void eachByteAsASign(Due due) {
        for (int b = 0; b < 256; b++) {
            char c = (char) b;
            String text = "2;" + c + "0 1;>2";
            if (c == '!') {
                fault(due, text, 5);
            } else if (SIGNS.indexOf(c) >= 0) {
                due.is("its sign", fine(due, text).gate(0, 0, 0), c);
            } else if (c == '>') {
                fault(due, text, 6);
            } else if (c == ' ') {
                fault(due, text, 3);
            } else {
                fault(due, text, 2);
            }
        }
    }

    @Sentence(promise = 7, says = FIRST_BYTE)
    static void eachByteAsADigitOrAMark(Due due) {
        for (int b = 0; b < 256; b++) {
            char c = (char) b;
            boolean digit = c >= '0' && c <= '9';
            if (digit) {
                continue;
            }
            fault(due, c == ' ' ? "x" : c + ";>0", 0);
            fault(due, "2;&" + c + " 1;>2", c == ' ' ? 6 : 3);
            fault(due, "2;&0 " + c + ";>2", c == ' ' ? 6 : 5);
            fault(due, "2;!0;>" + c, c == ' ' ? 7 : 6);
            if (c != ';') {
                fault(due, "2" + c + ">0", c == ' ' ? 2 : 1);
                fault(due, "2;!0" + c + ">0", c == ' ' ? 5 : 4);
            }
        }
    }

    @Sentence(promise = 7, says = "or of the first digit of a number that is not as told")
    static void faultsAtTheFirstDigit(Due due) {
        fault(due, "0017;>0", 0);
        fault(due, "   0017;>0", 3);
        fault(due, "2;&  0002 0;>0", 5);
        fault(due, "2;&0   0003;>0", 7);
        fault(due, "2;!  02;>0", 5);
        fault(due, "2;>  0002", 5);
        fault(due, "2;>1   0002", 7);
        fault(due, "2;>9x", 3);
        fault(due, "2;>9", 3);
    }

    @Sentence(promise = 7, says = "or of a SIGN of a 41st GATE")
    static void faultsAtA41stGate(Due due) {
        for (char sign : SIGNS.toCharArray()) {
            fault(due, "1;" + gates(40) + sign + "0;>0", 122);
            fault(due, "1;" + gates(40) + "  " + sign + "0;>0", 124);
            fault(due, "1;" + gates(40) + sign, 122);
            fault(due, "1;" + gates(40) + sign + "99 x", 122);
        }
        fault(due, "1;" + gates(40) + "x", 122);
        fault(due, "1;" + gates(40) + ";>0", 122);
        fault(due, "1;" + gates(39) + "!9999;!0;>0", 120);
    }

    @Sentence(promise = 7, says = "of the first digit of a 9th OUTPUT")
    static void faultsAtA9thOutput(Due due) {
        fault(due, "1;>" + outputs(8) + "0", 19);
        fault(due, "1;>" + outputs(8) + "   0000", 22);
        fault(due, "1;>" + outputs(8) + "1", 19);
        fault(due, "1;>" + outputs(8) + "99999", 19);
        fault(due, "1;>" + outputs(8) + "x", 19);
        fault(due, "1;>" + outputs(7) + "1 0", 17);
        fault(due, "1;>" + outputs(7) + "00000", 21);
    }

    @Sentence(promise = 7, says = "or the TEXT's end, where something has to stand.")
    static void faultsAtTheEnd(Due due) {
        String text = "2;&0 1;>2";
        for (int length = 0; length < text.length(); length++) {
            fault(due, text.substring(0, length), length);
            fault(due, text.substring(0, length) + " ", length + 1);
        }
        fault(due, "2;!", 3);
        fault(due, "2;!0", 4);
        fault(due, "1;" + gates(40), 122);
        fault(due, "1;" + gates(40) + ">", 123);
        fault(due, " ".repeat(4000), 4000);
        fault(due, "1;>" + " ".repeat(3997), 4000);
    }

    // ---- promise 8

    private static final String ABOUT = "Of a CIRCUIT: 0 INPUTS, 1 GATES, 2 OUTPUTS, 3 TABLED ones, 4 WIRES.";

    @Sentence(promise = 8, says = ABOUT)
    static void aboutTheSmallestAndTheBiggest(Due due) {
        GarbledWires x = new GarbledWires();
        Bench.circuit(x, "1;>0");
        Bench.circuit(x, Bench.biggestText());
        Bench.circuit(x, "1;" + gates(40) + ">0");
        Bench.circuit(x, "16;>15");
        int[][] want = {{1, 0, 1, 0, 1}, {16, 40, 8, 40, 56}, {1, 40, 1, 0, 41}, {16, 0, 1, 0, 16}};
        for (int c = 0; c < want.length; c++) {
            for (int what = 0; what < 5; what++) {
                due.is("about(" + c + ", " + what + ")", x.about(c, what), want[c][what]);
            }
        }
    }

    @Sentence(promise = 8, says = "BAD.")
    static void aboutNoSuchThing(Due due) {
        GarbledWires x = new GarbledWires();
        Bench.circuit(x, "1;>0");
        for (int what : Bench.outside(0, 4)) {
            due.is("about(0, " + what + ")", x.about(0, what), Bench.BAD);
        }
        for (int c : Bench.outside(0, 0)) {
            due.is("about(" + c + ", 0)", x.about(c, 0), Bench.BAD);
        }
        for (int c = 1; c < 6; c++) {
            due.is("about(" + c + ", 0) ahead of it", x.about(c, 0), Bench.BAD);
            Bench.circuit(x, "1;>0");
            due.is("about(" + c + ", 0)", x.about(c, 0), 1);
        }
        for (int c : Bench.outside(0, 5)) {
            due.is("about(" + c + ", 0) of six", x.about(c, 0), Bench.BAD);
        }
    }

    @Sentence(promise = 8, says = NOTHING_CHANGES)
    static void refusedQuestionsOfCircuitsChangeNothing(Due due) {
        GarbledWires x = new GarbledWires();
        Bench.circuit(x, "2;&0 1;>2");
        x.feed(1, 5);
        String before = Bench.traces(x);
        due.is("about(1, 0)", x.about(1, 0), Bench.BAD);
        due.is("gate(0, 1, 0)", x.gate(0, 1, 0), Bench.BAD);
        due.is("output(0, 1)", x.output(0, 1), Bench.BAD);
        due.is("plain(1, 0)", x.plain(1, 0), Bench.BAD);
        due.holds("all is as before", before.equals(Bench.traces(x)));
        due.is("count(0), for they do not read the tape", x.count(0), 5);
    }

    // ---- promise 9

    private static final String GATE =
            "Of GATE i of a CIRCUIT: 0 its SIGN, 1, 2 its WIRES (2: NONE of !), 3 its number among "
            + "TABLED ones (NONE).";

    @Sentence(promise = 9, says = GATE)
    static void gateTheFirstAndTheLast(Due due) {
        GarbledWires x = new GarbledWires();
        Bench.circuit(x, Bench.biggestText());
        due.is("gate(0, 0, 0)", x.gate(0, 0, 0), '&');
        due.is("gate(0, 0, 1)", x.gate(0, 0, 1), 15);
        due.is("gate(0, 0, 2)", x.gate(0, 0, 2), 0);
        due.is("gate(0, 0, 3)", x.gate(0, 0, 3), 0);
        due.is("gate(0, 39, 0)", x.gate(0, 39, 0), '#');
        due.is("gate(0, 39, 1)", x.gate(0, 39, 1), 54);
        due.is("gate(0, 39, 2)", x.gate(0, 39, 2), 7);
        due.is("gate(0, 39, 3)", x.gate(0, 39, 3), 39);
    }

    @Sentence(promise = 9, says = GATE)
    static void gateThatHasNone(Due due) {
        GarbledWires x = new GarbledWires();
        Bench.circuit(x, "1;!0;^0 0;&0 0;>0");
        due.is("gate(0, 0, 1) of !", x.gate(0, 0, 1), 0);
        due.is("gate(0, 0, 2) of !", x.gate(0, 0, 2), Bench.NONE);
        due.is("gate(0, 0, 3) of !", x.gate(0, 0, 3), Bench.NONE);
        due.is("gate(0, 1, 2) of ^", x.gate(0, 1, 2), 0);
        due.is("gate(0, 1, 3) of ^", x.gate(0, 1, 3), Bench.NONE);
        due.is("gate(0, 2, 2) of &", x.gate(0, 2, 2), 0);
        due.is("gate(0, 2, 3) of &", x.gate(0, 2, 3), 0);
    }

    @Sentence(promise = 9, says = "The first five are TABLED, numbered among themselves from 0 on.")
    static void gatesNumberedFromZeroOn(Due due) {
        GarbledWires x = new GarbledWires();
        Bench.circuit(x, "2;!0;&0 1;^0 1;|0 1;/0 1;!1;%0 1;#0 1;>0");
        int[] want = {Bench.NONE, 0, Bench.NONE, 1, 2, Bench.NONE, 3, 4};
        for (int i = 0; i < want.length; i++) {
            due.is("gate(0, " + i + ", 3)", x.gate(0, i, 3), want[i]);
        }
        Bench.circuit(x, "1;" + gates(39) + "&0 0;>0");
        due.is("the 40th gate is the first tabled one", x.gate(1, 39, 3), 0);
    }

    @Sentence(promise = 9, says = "BAD.")
    static void gateThatIsNotThere(Due due) {
        GarbledWires x = new GarbledWires();
        Bench.circuit(x, "2;&0 1;!2;>3");
        Bench.circuit(x, "1;>0");
        Bench.circuit(x, Bench.biggestText());
        for (int i : Bench.outside(0, 1)) {
            due.is("gate(0, " + i + ", 0)", x.gate(0, i, 0), Bench.BAD);
        }
        for (int what : Bench.outside(0, 3)) {
            due.is("gate(0, 0, " + what + ")", x.gate(0, 0, what), Bench.BAD);
        }
        for (int c : Bench.outside(0, 2)) {
            due.is("gate(" + c + ", 0, 0)", x.gate(c, 0, 0), Bench.BAD);
        }
        for (int i : Bench.outside(0, 39)) {
            due.is("gate(2, " + i + ", 0)", x.gate(2, i, 0), Bench.BAD);
        }
        due.is("gate(1, 0, 0) of no gates", x.gate(1, 0, 0), Bench.BAD);
    }

    // ---- promise 10

    @Sentence(promise = 10, says = "WIRE that OUTPUT i of a CIRCUIT is.")
    static void outputTheFirstAndTheEighth(Due due) {
        GarbledWires x = new GarbledWires();
        Bench.circuit(x, Bench.biggestText());
        Bench.circuit(x, "1;>0");
        int[] want = {55, 54, 53, 52, 51, 16, 15, 0};
        for (int i = 0; i < 8; i++) {
            due.is("output(0, " + i + ")", x.output(0, i), want[i]);
        }
        due.is("output(1, 0)", x.output(1, 0), 0);
    }

    @Sentence(promise = 10, says = "BAD.")
    static void outputThatIsNotThere(Due due) {
        GarbledWires x = new GarbledWires();
        Bench.circuit(x, Bench.biggestText());
        Bench.circuit(x, "1;>0");
        for (int i : Bench.outside(0, 7)) {
            due.is("output(0, " + i + ")", x.output(0, i), Bench.BAD);
        }
        for (int i : Bench.outside(0, 0)) {
            due.is("output(1, " + i + ")", x.output(1, i), Bench.BAD);
        }
        for (int c : Bench.outside(0, 1)) {
            due.is("output(" + c + ", 0)", x.output(c, 0), Bench.BAD);
        }
    }

    // ---- promise 11

    @Sentence(promise = 11, says =
            "The truths of all OUTPUTS (0 the lowest bit), by those of INPUTS as bits of the number, by "
            + "the GATES themselves.")
    static void plainOfTheFirstAndTheLastBit(Due due) {
        GarbledWires x = new GarbledWires();
        Bench.circuit(x, "16;>0 1 2 3 4 5 6 7");
        Bench.circuit(x, "16;>8 9 10 11 12 13 14 15");
        Bench.circuit(x, "1;!0;>0 1");
        for (int k = 0; k < 16; k++) {
            due.is("plain(0, 1 << " + k + ")", x.plain(0, 1 << k), k < 8 ? 1 << k : 0);
            due.is("plain(1, 1 << " + k + ")", x.plain(1, 1 << k), k < 8 ? 0 : 1 << k - 8);
        }
        due.is("plain(0, 0)", x.plain(0, 0), 0);
        due.is("plain(0, 65535)", x.plain(0, 65535), 255);
        due.is("plain(1, 65535)", x.plain(1, 65535), 255);
        due.is("plain(2, 0) of one input", x.plain(2, 0), 2);
        due.is("plain(2, 1) of one input", x.plain(2, 1), 1);
    }

    @Sentence(promise = 11, says =
            "The truths of all OUTPUTS (0 the lowest bit), by those of INPUTS as bits of the number, by "
            + "the GATES themselves.")
    static void plainThroughFortyGates(Due due) {
        GarbledWires x = new GarbledWires();
        StringBuilder chain = new StringBuilder("16;");
        for (int i = 0; i < 40; i++) {
            chain.append('!').append(15 + i).append(';');
        }
        Bench.circuit(x, chain + ">55 54 16 15 31 32 47 48");
        due.is("plain(0, 0)", x.plain(0, 0), 0b10100110);
        due.is("plain(0, 32768)", x.plain(0, 32768), 0b01011001);
    }

    /** The gate behind, ^ of one wire twice, is never true: what a gate tells is of its own wire alone. */
    @Sentence(promise = 11, says = "& both; | one or both; / x and not y; % not both; # neither; ^ just one; ! not x.")
    static void plainOfEachSignAndTruth(Due due) {
        int[][] want = {{0, 0, 0, 1}, {0, 1, 1, 1}, {0, 0, 1, 0}, {1, 1, 1, 0}, {1, 0, 0, 0}, {0, 1, 1, 0},
            {1, 1, 0, 0}};
        for (int s = 0; s < 7; s++) {
            char sign = SIGNS.charAt(s);
            for (int a = 0; a < 2; a++) {
                for (int b = 0; b < 2; b++) {
                    GarbledWires x = fine(due, "2;" + sign + a + (sign == '!' ? "" : " " + b) + ";^0 0;>2 3");
                    for (int inputs = 0; inputs < 4; inputs++) {
                        int truths = 2 * (inputs >> a & 1) + (inputs >> b & 1);
                        due.is(sign + " of wires " + a + " " + b + " by " + inputs, x.plain(0, inputs),
                                want[s][truths]);
                    }
                }
            }
        }
    }

    @Sentence(promise = 11, says = "BAD.")
    static void plainOfNoSuchCircuit(Due due) {
        GarbledWires x = new GarbledWires();
        due.is("plain(0, 0) where there is none", x.plain(0, 0), Bench.BAD);
        Bench.circuit(x, "1;>0");
        Bench.circuit(x, "1;>0");
        for (int c : Bench.outside(0, 1)) {
            due.is("plain(" + c + ", 0)", x.plain(c, 0), Bench.BAD);
        }
    }
}
