import java.io.IOException;
import java.nio.file.Files;
import java.nio.file.Path;
import java.util.ArrayList;
import java.util.List;
import java.util.regex.Matcher;
import java.util.regex.Pattern;
import java.util.stream.Stream;

/**
 * That no sentence is forgotten: each promise and term has a method of its own among the tests of edges, each
 * such method is called, and what it quotes stands in the document.
 */
final class SentencesTest {
    private static final Path TESTS = Path.of("src/test/java");
    private static final Path DOCUMENT = Path.of("../shared/DOC.md");

    private SentencesTest() {
    }

    public static void main(String[] args) throws IOException {
        List<String> sources = new ArrayList<>();
        try (Stream<Path> files = Files.list(TESTS)) {
            for (Path file : (Iterable<Path>) files.sorted()::iterator) {
                if (file.getFileName().toString().matches("Edge\\w+Test\\.java")) {
                    sources.add(Files.readString(file));
                }
            }
        }
        everyPromise(String.join("\n", sources));
        for (String source : sources) {
            everyMethodIsCalled(source);
            quotesStand(source);
        }
        Check.finish("SentencesTest");
    }

    private static void everyPromise(String all) {
        for (int promise = 1; promise <= 70; promise++) {
            String start = String.format("private static void p%02d", promise);
            Check.due("promise " + promise + " has a test", all.contains(start) ? 1 : 0, 1);
        }
        for (String term : new String[] {"I", "II", "III", "IV", "V", "VI", "VII", "VIII"}) {
            boolean found = Pattern.compile("private static void term" + term + "[a-z]").matcher(all).find();
            Check.due("term " + term + " has a test", found ? 1 : 0, 1);
        }
        for (String part : new String[] {"tokens", "faults", "termSlots"}) {
            Check.due(part + " have a test", all.contains("private static void " + part) ? 1 : 0, 1);
        }
    }

    private static void everyMethodIsCalled(String source) {
        Matcher m = Pattern.compile("private static void (\\w+)\\(\\) \\{").matcher(source);
        while (m.find()) {
            boolean called = source.contains("        " + m.group(1) + "();\n");
            Check.due(m.group(1) + " is called", called ? 1 : 0, 1);
        }
    }

    private static void quotesStand(String source) throws IOException {
        if (!Files.exists(DOCUMENT)) {
            System.out.println("no document at " + DOCUMENT + ": quotes are not looked up");
            return;
        }
        String document = Files.readString(DOCUMENT).replaceAll("\\s+", " ");
        Matcher comment = Pattern.compile("/\\*\\*(.*?)\\*/", Pattern.DOTALL).matcher(source);
        while (comment.find()) {
            Matcher quote = Pattern.compile("\"([^\"]+)\"").matcher(comment.group(1));
            while (quote.find()) {
                // Two dots stand for what is left out, or are the document's own between two bounds.
                for (String piece : quote.group(1).split(" ?\\.\\.,? ?")) {
                    String words = piece.replaceAll("\\.$", "").strip();
                    Check.due("the document says: " + words, document.contains(words) ? 1 : 0, 1);
                }
            }
        }
    }
}
