import java.io.IOException;
import java.nio.file.Files;
import java.nio.file.Path;
import java.util.Locale;

/** Each sentence of the document that names an edge, with a test of its own; and that no sentence was left out. */
public final class EdgesTest extends Check {
    private static final Path DOCUMENT = Path.of("../shared/DOC.md");
    /** How sentences begin that name no edge. */
    private static final String[] WITHOUT = {"A sheet that buyers", "Ahead of the calls"};

    /** Each sentence that was tested stands in the document, and each line or sentence of the document was tested. */
    private static void document() throws IOException {
        int promise = 0;
        boolean isTold = false;
        StringBuilder all = new StringBuilder();
        for (String line : Files.readAllLines(DOCUMENT)) {
            if (line.startsWith("## ")) {
                isTold = !line.equals("## The public face") && !line.equals("## Not promised");
                promise = line.startsWith("## Promise ") ? Integer.parseInt(line.substring(11, line.indexOf(':'))) : 0;
            } else if (isTold && !line.equals(line.toUpperCase(Locale.ROOT))) {
                all.append(promise).append(' ').append(line).append('\n');
                String[] parts = promise == 0 ? line.split("(?<=\\.) (?=[A-Z])") : new String[] {line};
                for (String part : parts) {
                    isTested(promise, part);
                }
            }
        }
        String[] lines = all.toString().split("\n");
        for (String sentence : SENTENCES) {
            where = "promise " + sentence;
            due("found in the document", isFound(lines, sentence), true);
        }
    }

    private static boolean isFound(String[] lines, String sentence) {
        int space = sentence.indexOf(' ');
        for (String line : lines) {
            if (line.startsWith(sentence.substring(0, space + 1)) && line.contains(sentence.substring(space + 1))) {
                return true;
            }
        }
        return false;
    }

    private static void isTested(int promise, String part) {
        where = "promise " + promise + ", " + part;
        boolean is = false;
        for (String begin : WITHOUT) {
            is = is || part.startsWith(begin);
        }
        for (String sentence : SENTENCES) {
            String text = sentence.substring(sentence.indexOf(' ') + 1);
            is = is || sentence.startsWith(promise + " ") && (part.contains(text) || promise == 0 && text.contains(part));
        }
        due("tested", is, true);
    }

    public static void main(String[] args) throws IOException {
        EdgesOfTerms.all();
        EdgesOfTrades.all();
        EdgesOfCells.all();
        EdgesOfRounds.all();
        if (Files.exists(DOCUMENT)) {
            document();
        }
        System.out.println("EdgesTest: " + SENTENCES.size() + " sentences, " + checks + " checks, " + wrong + " wrong");
        if (wrong != 0) {
            System.exit(1);
        }
    }
}
