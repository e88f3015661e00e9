import java.io.IOException;
import java.nio.file.Files;
import java.nio.file.Path;

/** What the tests share: counts the answers that are not as due. */
final class Check {
    private static final Path DOCUMENT = Path.of("../shared/DOC.md");

    private final String name;
    private String sentence = "";
    private int ofSentence = 1;
    private int sentences = 0;
    private int right = 0;
    private int wrong = 0;

    Check(String name) {
        this.name = name;
    }

    void due(String call, long got, long want) {
        ofSentence++;
        if (got == want) {
            right++;
        } else {
            wrong++;
            System.out.println(name + ": " + sentence + call + " answered " + got + ", due is " + want);
        }
    }

    void alike(String call, String got, String want) {
        due(call + ": '" + got + "', not '" + want + "': whether it is so", got.equals(want) ? 1 : 0, 1);
    }

    /** The document's words that the checks behind this are for: they must stand there, and must be checked. */
    void sentence(String words) {
        endSentence();
        sentence = "\"" + words + "\" ";
        ofSentence = 0;
        sentences++;
        if (!document().contains(words)) {
            wrong++;
            System.out.println(name + ": these words do not stand in the document: " + words);
        }
    }

    private void endSentence() {
        if (ofSentence == 0) {
            wrong++;
            System.out.println(name + ": nothing is checked of " + sentence);
        }
    }

    private static String document() {
        try {
            return Files.readString(DOCUMENT).replaceAll("\\s+", " ");
        } catch (IOException e) {
            throw new IllegalStateException("the document is not there: " + DOCUMENT, e);
        }
    }

    static void feed(BottomryLoans x, String text) {
        for (int i = 0; i < text.length(); i++) {
            x.feed(text.charAt(i));
        }
    }

    /** A new object that has read a text. */
    static BottomryLoans on(String text) {
        BottomryLoans x = new BottomryLoans();
        feed(x, text);
        if (x.voyage() < 0) {
            throw new IllegalStateException("a test's text has a fault: " + text);
        }
        return x;
    }

    void finish() {
        endSentence();
        String told = sentences == 0 ? "" : sentences + " sentences, ";
        System.out.println(name + ": " + told + right + " answers as due, " + wrong + " not");
        if (wrong != 0 || right == 0) {
            System.exit(1);
        }
    }
}
