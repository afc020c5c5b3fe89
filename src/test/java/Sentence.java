import java.io.IOException;
import java.nio.file.Files;
import java.nio.file.Path;

/**
 * The sentence of the document that a test is about. Each must stand in the document as it is quoted, something must
 * be asked of it, and in the end no word of 'Terms' and of the 39 promises may be left that no test quotes.
 */
final class Sentence {
    /** Terms, THE ROAD and A DRIVE are told ahead of promise 1. */
    static final int TERMS = 0;

    private static final int PROMISES = 39;
    private static final Path DOCUMENT = Path.of("../shared/DOC.md");
    private static final String[] TOLD = readDocument();
    private static final boolean[][] QUOTED = new boolean[PROMISES + 1][];
    private static String current = null;
    private static int askedBefore = 0;

    private Sentence() { }

    static void of(int promise, String words) {
        leave();
        current = "promise " + promise + ", '" + words + "'";
        askedBefore = Due.asked();
        quote(promise, words);
    }

    private static void leave() {
        if (current != null && Due.asked() == askedBefore) {
            Due.due("answers that were asked of " + current, 0, 1);
        }
    }

    static void close() {
        leave();
        current = null;
        if (TOLD == null) {
            System.out.println("there is no " + DOCUMENT + ": quotes are not compared");
            return;
        }
        for (int promise = 0; promise <= PROMISES; promise++) {
            Due.due("words of promise " + promise + " that no test quotes: " + notQuoted(promise), notQuoted(promise).length(), 0);
        }
    }

    private static void quote(int promise, String words) {
        if (TOLD == null) {
            return;
        }
        boolean[] quoted = quotedOf(promise);
        int at = TOLD[promise].indexOf(words);
        Due.due("a place in the document of " + current, at < 0 ? 0 : 1, 1);
        while (at >= 0 && quoted[at] && TOLD[promise].indexOf(words, at + 1) >= 0) {
            at = TOLD[promise].indexOf(words, at + 1);
        }
        for (int i = 0; at >= 0 && i < words.length(); i++) {
            quoted[at + i] = true;
        }
        askedBefore = Due.asked();
    }

    private static boolean[] quotedOf(int promise) {
        if (QUOTED[promise] == null) {
            QUOTED[promise] = new boolean[TOLD[promise].length()];
        }
        return QUOTED[promise];
    }

    private static String notQuoted(int promise) {
        StringBuilder left = new StringBuilder();
        boolean[] quoted = quotedOf(promise);
        for (int i = 0; i < quoted.length; i++) {
            if (!quoted[i] && Character.isLetterOrDigit(TOLD[promise].charAt(i))) {
                left.append(TOLD[promise].charAt(i));
            }
        }
        return left.toString();
    }

    /** What is told of each promise behind its signature, blanks made one; null if there is no document. */
    private static String[] readDocument() {
        String all;
        try {
            all = Files.readString(DOCUMENT).replace("```text", " ").replace("```", " ").replaceAll("\\s+", " ");
        } catch (IOException e) {
            return null;
        }
        String[] told = new String[PROMISES + 1];
        told[TERMS] = between(all, "## Terms ", "Ahead of the calls ");
        for (int promise = 1; promise <= PROMISES; promise++) {
            String end = promise < PROMISES ? "## Promise " + (promise + 1) + ":" : "## Not promised";
            told[promise] = between(between(all, "## Promise " + promise + ":", end) + "\n", "`: ", "\n");
        }
        return told;
    }

    private static String between(String all, String from, String to) {
        int start = all.indexOf(from);
        int end = start < 0 ? -1 : all.indexOf(to, start);
        return end < 0 ? "" : all.substring(start + from.length(), end);
    }
}
