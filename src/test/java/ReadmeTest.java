import java.io.File;
import java.io.IOException;
import java.lang.reflect.Field;
import java.lang.reflect.Method;
import java.lang.reflect.Modifier;
import java.nio.file.Files;
import java.nio.file.Path;

/** That README.md shows what the class does: its example, the numbers of its table, and no call left out. */
public final class ReadmeTest {
    private static final Path README = Path.of("README.md");
    private static final Path THIS_TEST = Path.of("src/test/java/ReadmeTest.java");
    private static final Due due = new Due();

    public static void main(String[] args) throws IOException, IllegalAccessException {
        String readme = Files.readString(README);
        example();
        exampleIsTheOneShown(readme);
        callsAndConstants(readme);
        testsAndTheirScript(readme);
        placesLeftOpen();
        due.end();
    }

    /** The lines between the two marks stand in README.md, one by one. */
    private static void example() {
        // from here
        GarbledWires w = new GarbledWires();
        for (char c : "2;&0 1;>2".toCharArray()) {
            w.feed(c, 1);
        }
        int circuit = w.circuit();              // two inputs, one gate, one output
        for (int coin = 0; coin < 6; coin++) {
            w.feed(0x1234567L * (coin + 1), 8); // delta and two labels, 16 bytes each
        }
        int garbled = w.garble(circuit, 2, 3);  // by HALVES, labels in rows of INTS
        w.encode(garbled, 3);                   // both inputs are true
        w.workOut(garbled);
        int outputs = w.openAll(garbled);       // 1, as w.plain(circuit, 3) tells
        // to here
        due.is("the example's circuit", circuit, 0);
        due.is("its inputs", w.about(circuit, 0), 2);
        due.is("its gates", w.about(circuit, 1), 1);
        due.is("its outputs", w.about(circuit, 2), 1);
        due.is("the garbled one", garbled, 0);
        due.is("its way", w.told(garbled, 1), 2);
        due.is("its kind", w.told(garbled, 2), 3);
        due.is("what the outputs are", outputs, 1);
        due.is("what plain() tells", w.plain(circuit, 3), 1);
    }

    private static void exampleIsTheOneShown(String readme) throws IOException {
        String test = Files.readString(THIS_TEST);
        int start = test.indexOf("        // from here\n");
        String shown = test.substring(test.indexOf('\n', start) + 1, test.indexOf("        // to here\n", start));
        due.holds("README.md shows the example that runs here",
                readme.contains("```java\n" + shown.replaceAll("(?m)^ {8}", "") + "```\n"));
    }

    private static void callsAndConstants(String readme) throws IllegalAccessException {
        for (Method m : GarbledWires.class.getDeclaredMethods()) {
            if (Modifier.isPublic(m.getModifiers())) {
                due.holds("README.md tells of " + m.getName(), readme.matches("(?s).*`" + m.getName() + "[`(].*"));
            }
        }
        for (Field f : GarbledWires.class.getFields()) {
            due.holds("README.md tells of " + f.getName() + " and its number",
                    readme.matches("(?s).*`" + f.getName() + "` \\(?" + f.getInt(null) + "\\b.*"));
        }
    }

    private static void testsAndTheirScript(String readme) {
        due.holds("README.md tells of .ci/run", readme.contains("\n.ci/run\n"));
        for (File f : new File("src/test/java").listFiles()) {
            String name = f.getName().replace(".java", "");
            due.holds("README.md tells of " + name, !name.endsWith("Test") || readme.contains("`" + name + "`"));
        }
    }

    /** What README.md says of calls for which the document leaves room. */
    private static void placesLeftOpen() {
        GarbledWires x = Bench.garbled("2;&0 1;>2", 2, 0, 99);
        Bench.feed(x, new byte[16]);
        due.is("lay(0, 0, 1)", x.lay(0, 0, 1), GarbledWires.BAD);
        due.is("the tape then", x.count(0), 0);
        due.is("plain() of bits beyond", x.plain(0, -1), x.plain(0, 3));
        due.is("encode() of bits beyond", x.encode(0, -1), 2);
        due.is("workOut()", x.workOut(0), 1);
        due.is("openAll()", x.openAll(0), 1);
        int before = x.count(3);
        due.is("agrees()", x.agrees(0, 0, 4), 1);
        due.is("blocks of four runs", x.count(3) - before, 8);
        due.is("choose()", x.choose(0, 0, 0), 1);
        due.is("blocks of the latest workOut()", x.told(0, 6), 2);
        due.is("row() of a row that is not stored", x.row(0, 0, 2, 0), GarbledWires.NONE);
        due.is("byte 16 of it", x.row(0, 0, 2, 16), GarbledWires.BAD);
    }
}
