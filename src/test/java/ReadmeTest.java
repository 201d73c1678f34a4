import java.io.IOException;
import java.io.StringWriter;
import java.lang.reflect.Field;
import java.lang.reflect.Method;
import java.lang.reflect.Modifier;
import java.net.URI;
import java.net.URL;
import java.net.URLClassLoader;
import java.nio.file.Files;
import java.nio.file.Path;
import java.util.List;
import java.util.regex.Matcher;
import java.util.regex.Pattern;
import javax.tools.JavaCompiler;
import javax.tools.JavaFileObject;
import javax.tools.SimpleJavaFileObject;
import javax.tools.ToolProvider;

/** README.md's program, run as it stands there: each line answers or throws what its comment says; and no call goes unnamed. */
public final class ReadmeTest extends Check {
    private static final Path PAGE = Path.of("README.md");
    private static final Pattern NEW = Pattern.compile("Cellmarket sheet = new Cellmarket\\(\\);");
    private static final Pattern LINE = Pattern.compile("(int \\w+ = )?(sheet\\..*\\));\\s+// (-?\\d+|true|false|throws \\w+)(:.*)?");
    private static int lines = 0;

    /** A Java text that is held in memory. */
    private static final class Text extends SimpleJavaFileObject {
        private final String text;

        Text(String name, String text) {
            super(URI.create("string:///" + name + ".java"), Kind.SOURCE);
            this.text = text;
        }

        @Override
        public CharSequence getCharContent(boolean ignoreErrors) {
            return text;
        }
    }

    /** Makes a check of a line of the page. */
    private static String checkOf(String line) {
        if (NEW.matcher(line).matches()) {
            return line;
        }
        Matcher m = LINE.matcher(line);
        if (!m.matches()) {
            fail("a line without an answer: " + line);
            return "";
        }
        lines++;
        String call = m.group(2);
        String quoted = '"' + call.replace("\"", "\\\"") + '"';
        String answer = m.group(3);
        if (answer.startsWith("throws ")) {
            String kind = answer.substring(7);
            return "try { " + call + "; ReadmeTest.told(" + quoted + ", \"nothing\", \"" + kind + "\"); } catch (RuntimeException e) { ReadmeTest.told("
                + quoted + ", e.getClass().getSimpleName(), \"" + kind + "\"); }";
        }
        String name = "answer" + lines;
        String kept = m.group(1) == null ? "" : m.group(1) + name + "; ";
        return "var " + name + " = " + call + "; " + kept + "ReadmeTest.told(" + quoted + ", \"\" + " + name + ", \"" + answer + "\");";
    }

    /** The program on the page calls this. */
    public static void told(String call, String got, String want) {
        checks++;
        if (!got.equals(want)) {
            fail(call + " is " + got + ", README.md says " + want);
        }
    }

    private static String program(List<String> page) {
        StringBuilder all = new StringBuilder("public final class Readme {\npublic static void run() {\n");
        boolean isJava = false;
        for (String line : page) {
            if (line.startsWith("```")) {
                isJava = line.equals("```java");
            } else if (isJava) {
                all.append(checkOf(line)).append('\n');
            }
        }
        return all.append("}\n}\n").toString();
    }

    private static void run(String program) throws IOException, ReflectiveOperationException {
        JavaCompiler compiler = ToolProvider.getSystemJavaCompiler();
        Path out = Files.createTempDirectory("readme");
        StringWriter said = new StringWriter();
        List<String> options = List.of("-d", out.toString(), "-cp", System.getProperty("java.class.path"));
        Iterable<JavaFileObject> texts = List.of(new Text("Readme", program));
        Path made = out.resolve("Readme.class");
        if (compiler.getTask(said, null, null, options, null, texts).call()) {
            try (URLClassLoader loader = new URLClassLoader(new URL[] {out.toUri().toURL()}, ReadmeTest.class.getClassLoader())) {
                loader.loadClass("Readme").getMethod("run").invoke(null);
            }
        } else {
            fail("the program does not compile: " + said);
        }
        Files.deleteIfExists(made);
        Files.deleteIfExists(out);
    }

    private static void names(List<String> page) {
        String text = String.join("\n", page);
        for (Method m : Cellmarket.class.getDeclaredMethods()) {
            if (Modifier.isPublic(m.getModifiers())) {
                due(m.getName() + "() is named", Pattern.compile("\\b" + m.getName() + "(\\(|`)").matcher(text).find(), true);
            }
        }
        for (Field f : Cellmarket.class.getDeclaredFields()) {
            if (Modifier.isPublic(f.getModifiers())) {
                due(f.getName() + " is named", Pattern.compile("\\b" + f.getName() + "\\b").matcher(text).find(), true);
            }
        }
    }

    public static void main(String[] args) throws IOException, ReflectiveOperationException {
        where = "README.md";
        List<String> page = Files.readAllLines(PAGE);
        names(page);
        run(program(page));
        due("there are examples", lines > 0, true);
        System.out.println("ReadmeTest: " + lines + " lines, " + checks + " checks, " + wrong + " wrong");
        if (wrong != 0) {
            System.exit(1);
        }
    }
}
