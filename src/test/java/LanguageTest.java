import java.lang.reflect.Constructor;
import java.lang.reflect.Field;
import java.lang.reflect.Method;
import java.lang.reflect.Modifier;
import java.nio.file.Files;
import java.nio.file.Path;
import java.util.ArrayList;
import java.util.Arrays;
import java.util.List;
import java.util.TreeSet;

/** The document's face, and those rules of LANGUAGE.md that the class and its text show at a glance. */
public final class LanguageTest {
    private static final String OUT = "IndexOutOfBoundsException", BAD = "IllegalArgumentException", NOT = "IllegalStateException";
    private static final String[] FACE = {
        "int give(int int int int) " + OUT + " " + NOT, "int let(int int int int int boolean) " + OUT + " " + BAD,
        "int ownerOf(int int) " + OUT, "boolean reads(int int int) " + OUT, "int word(int int int) " + BAD + " " + NOT,
        "int wipe() ", "int enter(int int int) " + OUT + " " + NOT, "int empty(int int int) " + OUT + " " + NOT,
        "int notice(int int) " + OUT + " " + BAD, "int value(int int int) " + OUT + " " + NOT,
        "int fault(int int int) " + OUT + " " + NOT, "int edits(int int) " + OUT, "int edit(int int int int) " + OUT + " " + BAD,
        "int bid(int int boolean int int) " + OUT + " " + BAD + " " + NOT, "int withdraw(int int) " + OUT + " " + NOT,
        "boolean share(int boolean) " + OUT, "int bell(int) " + OUT + " " + NOT, "boolean isFrozen(int) " + OUT,
        "int round(int int) " + OUT + " " + BAD, "int priceAnew(int) " + OUT, "int got(int) " + OUT, "int due(int int) " + OUT,
        "int settle(int) " + OUT, "int cash(int) " + OUT, "int limit(int int) " + OUT + " " + BAD, "int exposure(int) " + OUT,
        "int strikeBid(int) " + OUT + " " + NOT, "int strikeEdit(int) " + OUT + " " + NOT, "int events() "};
    private static final String CONSTANTS = "NONE -1 NUMBER 0 CELL 1 BUY 2 SELL 3 BUYS 4 SELLS 5 BIDS 6 LAST 7 PLUS 8 MINUS 9 TIMES 10"
        + " OVER 11 LEAST 12 MOST 13 WHEN 14 HIDDEN 1 CIRCLE 2 DIVISION 3 RANGE 4 EMPTY 5 NEGATIVE 6";
    private static final String[] WORDS = {"package ", "catch", "finally", "synchronized", "assert ", "protected ", "->", "::", "System.out",
        "Random", "nanoTime", "currentTime", "Thread", "Object", "HashMap", "Exact(", "import java.util.function", "while (true)", "for (;;)"};
    private static int wrong = 0;

    private static void must(boolean is, String what) {
        if (!is) {
            wrong++;
            System.out.println("LanguageTest: " + what);
        }
    }

    private static String names(Class<?>[] classes) {
        List<String> names = new ArrayList<>();
        for (Class<?> c : classes) {
            names.add(c.getSimpleName());
        }
        return String.join(" ", names);
    }

    private static void face() throws Exception {
        TreeSet<String> got = new TreeSet<>();
        TreeSet<String> open = new TreeSet<>();
        TreeSet<String> shut = new TreeSet<>();
        for (Method m : Cellmarket.class.getDeclaredMethods()) {
            if (Modifier.isPrivate(m.getModifiers())) {
                shut.add(m.getName());
                continue;
            }
            must(Modifier.isPublic(m.getModifiers()), m + " is neither public nor private");
            got.add(m.getReturnType() + " " + m.getName() + "(" + names(m.getParameterTypes()) + ") " + names(m.getExceptionTypes()));
            open.add(m.getName());
        }
        must(got.equals(new TreeSet<>(Arrays.asList(FACE))), "the methods are " + got);
        List<String> constants = new ArrayList<>();
        for (Field f : Cellmarket.class.getDeclaredFields()) {
            if (!Modifier.isPrivate(f.getModifiers())) {
                constants.add(f.getName() + " " + f.getInt(null));
                must(Modifier.toString(f.getModifiers()).equals("public static final"), f + " is no constant");
            }
        }
        must(String.join(" ", constants).equals(CONSTANTS), "the constants are " + constants);
        Constructor<?>[] makers = Cellmarket.class.getDeclaredConstructors();
        must(makers.length == 1 && Modifier.isPublic(makers[0].getModifiers()) && makers[0].getParameterCount() == 0, "the constructor");
        must(Modifier.toString(Cellmarket.class.getModifiers()).equals("public final"), "the class is not public final");
        inside(shut);
        shut.retainAll(open);
        must(shut.isEmpty(), "private methods with public names: " + shut);
    }

    private static void inside(TreeSet<String> shut) {
        must(Cellmarket.class.getDeclaredClasses().length <= 11, "too many classes");
        for (Class<?> c : Cellmarket.class.getDeclaredClasses()) {
            must(Modifier.isStatic(c.getModifiers()) && !Modifier.isPublic(c.getModifiers()), c + " is not static, or public");
            int fields = 0;
            for (Field f : c.getDeclaredFields()) {
                fields += Modifier.isStatic(f.getModifiers()) ? 0 : 1;
                must(!Modifier.isStatic(f.getModifiers()) || Modifier.isFinal(f.getModifiers()), f + " is static and not final");
            }
            must(fields <= 20, c + " has too many fields");
            for (Method m : c.getDeclaredMethods()) {
                must(m.getParameterCount() <= 7, m + " takes too many parameters");
                shut.add(m.getName());
            }
        }
    }

    private static void text(List<String> lines) {
        for (String line : lines) {
            for (String word : WORDS) {
                must(!line.contains(word), "a line with '" + word + "': " + line);
            }
            must(!line.startsWith("import ") || line.equals("import java.util.ArrayList;") || line.equals("import java.util.List;"), line);
            must(line.chars().allMatch(sign -> sign >= 32 && sign < 127), "a sign that is not plain: " + line);
        }
    }

    /** A method begins at a line that ends with a brace, at the indent of members, and ends at the brace at that indent. */
    private static void lengths(List<String> lines) {
        for (String indent : new String[] {"    ", "        "}) {
            int start = -1;
            for (int i = 0; i < lines.size(); i++) {
                String line = lines.get(i);
                if (line.startsWith(indent) && !line.startsWith(indent + " ") && line.endsWith(") {")) {
                    start = i;
                }
                if (line.equals(indent + "}") && start >= 0) {
                    must(i - start < 60, "a long method: " + lines.get(start));
                    start = -1;
                }
            }
        }
    }

    public static void main(String[] args) throws Exception {
        face();
        List<String> lines = Files.readAllLines(Path.of("src/main/java/Cellmarket.java"));
        text(lines);
        lengths(lines);
        System.out.println("LanguageTest: " + wrong + " wrong");
        if (wrong != 0) {
            System.exit(1);
        }
    }
}
