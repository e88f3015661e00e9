import java.io.IOException;
import java.nio.file.Files;
import java.nio.file.Path;
import java.util.ArrayList;
import java.util.Arrays;
import java.util.List;
import java.util.regex.Matcher;
import java.util.regex.Pattern;
import java.util.stream.Stream;

/** Every sentence of the document, from its Terms to its last promise, is quoted by a test that checks it. */
public final class SentencesTest {
    private static final Check CHECK = new Check("SentencesTest");
    private static final Path TESTS = Path.of("src/test/java");
    private static final Path DOCUMENT = Path.of("../shared/DOC.md");
    private static final Pattern QUOTE = Pattern.compile("\\bsentence\\(\"([^\"]*)\"\\)");

    /** What promises nothing of its own: titles, marks, what the interface says ahead of calls, the calls' faces. */
    private static final Pattern NO_SENTENCE = Pattern.compile("## Terms Words in capitals are told where they come first\\.|"
        + "======== [123]|THE VOYAGE is told in a text|: clauses: 's' W F T P ';' \\(|```(text)?|"
        + "Ahead of the calls [^:]*: ---- [a-z ,]+\\.|## Promise \\d+: (A new object|\\w+)|`int \\w+\\([^)]*\\)`:");

    public static void main(String[] args) throws IOException {
        String text = Files.readString(DOCUMENT).replaceAll("\\s+", " ");
        int from = text.indexOf("## Terms");
        int to = text.indexOf("## Not promised");
        CHECK.due("the document has Terms and an end", from >= 0 && to > from ? 1 : 0, 1);
        String rest = withoutQuotes(text, quotes()).substring(from, to);
        Matcher word = Pattern.compile("\\w[^#]*").matcher(NO_SENTENCE.matcher(rest).replaceAll("#"));
        List<String> unquoted = new ArrayList<>();
        while (word.find()) {
            unquoted.add(word.group().trim());
        }
        CHECK.alike("what no test quotes", unquoted.toString(), "[]");
        CHECK.finish();
    }

    private static List<String> quotes() throws IOException {
        List<String> quotes = new ArrayList<>();
        try (Stream<Path> files = Files.list(TESTS)) {
            for (Path file : files.filter(one -> one.toString().endsWith("Test.java")).sorted().toList()) {
                Matcher quote = QUOTE.matcher(Files.readString(file));
                while (quote.find()) {
                    quotes.add(quote.group(1));
                }
            }
        }
        return quotes;
    }

    /** The text with a sign for each letter that a test quotes. */
    private static String withoutQuotes(String text, List<String> quotes) {
        char[] left = text.toCharArray();
        for (String quote : quotes) {
            for (int at = text.indexOf(quote); at >= 0; at = text.indexOf(quote, at + 1)) {
                Arrays.fill(left, at, at + quote.length(), '#');
            }
        }
        return new String(left);
    }
}
