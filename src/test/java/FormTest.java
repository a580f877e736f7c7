import java.io.IOException;
import java.lang.reflect.Constructor;
import java.lang.reflect.Field;
import java.lang.reflect.Method;
import java.lang.reflect.Modifier;
import java.nio.file.Files;
import java.nio.file.Path;
import java.util.Arrays;
import java.util.HashSet;
import java.util.Set;
import java.util.TreeSet;
import java.util.regex.Matcher;
import java.util.regex.Pattern;

/** The public face, and what of LANGUAGE.md the class or its text can tell. Runs in the project's folder. */
public final class FormTest {
    private static final Due due = new Due();
    private static final Path SOURCE = Path.of("src/main/java/GarbledWires.java");

    public static void main(String[] args) throws IOException {
        constants();
        methods();
        nestedClasses();
        String text = textWithoutComments();
        words(text);
        divisors(text);
        lengths(text);
        due.end();
    }

    private static void constants() {
        due.is("BAD", GarbledWires.BAD, -1);
        due.is("FULL", GarbledWires.FULL, -2);
        due.is("STATE", GarbledWires.STATE, -3);
        due.is("SHORT", GarbledWires.SHORT, -4);
        due.is("NULL", GarbledWires.NULL, -11);
        due.is("CAST", GarbledWires.CAST, -13);
        due.is("INDEX", GarbledWires.INDEX, -12);
        due.is("NONE", GarbledWires.NONE, -9);
        int shown = 0;
        for (Field f : GarbledWires.class.getDeclaredFields()) {
            due.holds(f.getName() + " is private, or public, static and final",
                    Modifier.isPrivate(f.getModifiers()) || f.getModifiers() == 25);
            shown += Modifier.isPublic(f.getModifiers()) ? 1 : 0;
        }
        due.is("public constants", shown, 8);
    }

    private static void methods() {
        Set<String> want = new TreeSet<>(Arrays.asList("int feed(long,int)", "int clear()", "int key()",
                "int make(int,int)", "int result(int)", "int circuit()", "int about(int,int)", "int gate(int,int,int)",
                "int output(int,int)", "int plain(int,int)", "int garble(int,int,int)", "int told(int,int)",
                "int label(int,int,int,int)", "int row(int,int,int,int)", "int spoil(int,int,int,int,int)",
                "int choose(int,int,int)", "int encode(int,int)", "int lay(int,int,int)", "int workOut(int)",
                "int active(int,int,int)", "long place(int,int,int,int)", "int open(int,int)", "int openAll(int)",
                "int agrees(int,int,int)", "int count(int)", "int status()"));
        Set<String> got = new TreeSet<>();
        for (Method m : GarbledWires.class.getDeclaredMethods()) {
            if (Modifier.isPublic(m.getModifiers())) {
                String types = Arrays.toString(m.getParameterTypes()).replace(", ", ",");
                got.add(m.getReturnType() + " " + m.getName() + types.replace("[", "(").replace("]", ")"));
            } else {
                due.holds(m.getName() + " is private", Modifier.isPrivate(m.getModifiers()));
            }
        }
        due.holds("the methods are " + got, got.equals(want));
        Constructor<?>[] makers = GarbledWires.class.getDeclaredConstructors();
        due.is("constructors", makers.length, 1);
        due.holds("a public one of no parameters",
                Modifier.isPublic(makers[0].getModifiers()) && makers[0].getParameterCount() == 0);
        due.holds("the class is public and final", (GarbledWires.class.getModifiers() & 17) == 17);
    }

    private static void nestedClasses() {
        Set<String> face = new HashSet<>();
        for (Method m : GarbledWires.class.getMethods()) {
            face.add(m.getName());
        }
        staticFieldsAreFinal(GarbledWires.class);
        due.holds("the class has some twenty fields at most", ownFields(GarbledWires.class) <= 20);
        Class<?>[] inside = GarbledWires.class.getDeclaredClasses();
        due.holds("at most some twelve classes", inside.length <= 12);
        for (Class<?> c : inside) {
            due.holds(c.getName() + " is static, and private or package-visible", Modifier.isStatic(c.getModifiers())
                    && !Modifier.isPublic(c.getModifiers()) && !Modifier.isProtected(c.getModifiers()));
            staticFieldsAreFinal(c);
            due.holds(c.getName() + " has some twenty fields at most", ownFields(c) <= 20);
            for (Method m : c.getDeclaredMethods()) {
                due.holds(c.getName() + "." + m.getName() + " bears no name of the face",
                        !Modifier.isPrivate(m.getModifiers()) || !face.contains(m.getName()));
                due.holds(m.getName() + " takes at most seven", m.getParameterCount() <= 7);
            }
        }
    }

    private static void staticFieldsAreFinal(Class<?> c) {
        for (Field f : c.getDeclaredFields()) {
            due.holds(c.getName() + "." + f.getName() + " is final, or not static",
                    !Modifier.isStatic(f.getModifiers()) || Modifier.isFinal(f.getModifiers()));
        }
    }

    private static int ownFields(Class<?> c) {
        int all = 0;
        for (Field f : c.getDeclaredFields()) {
            all += Modifier.isStatic(f.getModifiers()) ? 0 : 1;
        }
        return all;
    }

    private static String textWithoutComments() throws IOException {
        String text = Files.readString(SOURCE);
        return text.replaceAll("(?s)/\\*.*?\\*/", "").replaceAll("//[^\\n]*", "");
    }

    private static void words(String text) {
        String[] forbidden = {"throw", "throws", "try", "catch", "synchronized", "assert", "package", "protected",
            "hashCode", "import", "\\w+Exact"};
        for (String word : forbidden) {
            due.holds("no " + word, !Pattern.compile("\\b" + word + "\\b").matcher(text).find());
        }
        due.holds("no lambda, no method reference", !text.contains("->") && !text.contains("::"));
        due.holds("no endless loop", !text.contains("while (true)") && !text.contains("for (;;)"));
        due.holds("no static initialiser", !Pattern.compile("static\\s*\\{").matcher(text).find());
    }

    /** A written-out number is the one divisor that needs no look ahead of it (rule 7). */
    private static void divisors(String text) {
        String code = text.replaceAll("'.'", "");
        Matcher division = Pattern.compile("[/%]=?\\s*(\\S+)").matcher(code);
        while (division.find()) {
            due.holds("a written-out number divides, not " + division.group(1),
                    division.group(1).matches("[1-9][0-9]*\\W*"));
        }
    }

    /** A method begins four or eight blanks in, where a brace ends it; it has some sixty lines at most (rule 11). */
    private static void lengths(String text) {
        Matcher method = Pattern.compile("(?m)^( {4}| {8})(?!if|for|while|switch|\\})\\S[^\n=]*\\) \\{$").matcher(text);
        int found = 0;
        while (method.find()) {
            found++;
            int end = text.indexOf("\n" + method.group(1) + "}\n", method.end());
            long lines = text.substring(method.start(), end + 1).lines().count();
            due.holds("some sixty lines at most has" + method.group(), lines <= 60);
        }
        due.holds("the methods are found: " + found, found > 26);
    }
}
