import java.io.IOException;
import java.nio.file.Files;
import java.nio.file.Path;
import java.util.Arrays;
import java.util.regex.Matcher;
import java.util.regex.Pattern;

/**
 * The sentences of the document. A test quotes the one that it is about, then asks what the sentence says; the quote
 * has to stand in the document, and at the end no word of the document may be left that no test has quoted.
 */
final class Sentences {
    /** The section "Terms"; the promises are sections by their numbers. */
    static final int TERMS = 0;
    private static final int PROMISES = 24;
    private static final Path DOCUMENT = Path.of("../shared/DOC.md");

    private final Due due;
    private final String[] texts = new String[PROMISES + 1];
    private final boolean[][] quoted = new boolean[PROMISES + 1][];
    private String sentence = "";

    Sentences(String test) throws IOException {
        due = new Due(test);
        String document = Files.readString(DOCUMENT);
        for (int section = 0; section <= PROMISES; section++) {
            texts[section] = textOf(document, section);
            quoted[section] = new boolean[texts[section].length()];
        }
    }

    /** A section without its heading, the method's head, and the marks of the page. */
    private static String textOf(String document, int section) {
        String heading = section == TERMS ? "## Terms" : "## Promise " + section + ":[^\n]*\\s+`[^`]*`:";
        Matcher found = Pattern.compile("(?s)" + heading + "(.*?)\n## ").matcher(document);
        String text = found.find() ? found.group(1) : "";
        return text.replaceAll("```(text)?|==== \\d\\.|`", " ").replaceAll("\\s+", " ").trim();
    }

    /** Opens the test of a sentence, or of a part of one. */
    void says(int section, String quote) {
        sentence = (section == TERMS ? "Terms" : "Promise " + section) + " \"" + quote + "\"";
        int at = texts[section].indexOf(quote);
        if (at < 0) {
            due.wrong("the document does not say: " + sentence);
        }
        while (at >= 0) {
            Arrays.fill(quoted[section], at, at + quote.length(), true);
            at = texts[section].indexOf(quote, at + quote.length());
        }
    }

    void is(String call, long got, long want) {
        due.is(sentence + ": " + call, got, want);
    }

    void yes(String call, boolean got) {
        due.yes(sentence + ": " + call, got);
    }

    void no(String call, boolean got) {
        due.no(sentence + ": " + call, got);
    }

    void end() {
        for (int section = 0; section <= PROMISES; section++) {
            if (texts[section].isEmpty()) {
                due.wrong("the document has no section " + section);
            }
            tellUnquoted(section);
        }
        due.end();
    }

    /** The words that no test has quoted, as one text for each stretch of them. */
    private void tellUnquoted(int section) {
        StringBuilder stretch = new StringBuilder();
        Matcher words = Pattern.compile("\\w+").matcher(texts[section]);
        while (words.find()) {
            if (!quoted[section][words.start()]) {
                stretch.append(' ').append(words.group());
            } else if (stretch.length() > 0) {
                due.wrong("no test quotes of section " + section + ":" + stretch);
                stretch.setLength(0);
            }
        }
        if (stretch.length() > 0) {
            due.wrong("no test quotes of section " + section + ":" + stretch);
        }
    }
}
