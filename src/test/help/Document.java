import java.io.IOException;
import java.io.UncheckedIOException;
import java.nio.file.Files;
import java.nio.file.Path;
import java.util.ArrayList;
import java.util.List;

/** The document's sections "Terms" and "Promise 1" to "Promise 21", and which of their words the tests have quoted. */
final class Document {
    private static final int TERMS = 0, SECTIONS = 22;
    private static final String PATH = "../shared/DOC.md";

    /** Headings and lines of the face, which promise nothing by themselves. */
    private static final String[] WITHOUT_A_CASE = {
        "#", "The constants:", "`NEAR = 0, FAR = 1", "Ahead of the calls", "CONVENTIONS", "Spill, composing",
    };

    private static final String[] SECTION = readSections();
    private static final boolean[][] QUOTED = places();

    private Document() {
    }

    private static String[] readSections() {
        String[] sections = new String[SECTIONS];
        for (String part : read().split("(?m)^## ")) {
            if (part.startsWith("Terms")) {
                sections[TERMS] = part;
            } else if (part.startsWith("Promise ")) {
                sections[Integer.parseInt(part.substring(8, part.indexOf(':')))] = part;
            }
        }
        return sections;
    }

    private static String read() {
        try {
            return Files.readString(Path.of(PATH));
        } catch (IOException e) {
            throw new UncheckedIOException(e);
        }
    }

    private static boolean[][] places() {
        boolean[][] places = new boolean[SECTIONS][];
        for (int i = 0; i < SECTIONS; i++) {
            places[i] = new boolean[SECTION[i].length()];
        }
        return places;
    }

    /** Whether the words stand in the section of the promise or in the terms; there they are quoted from now on. */
    static boolean isQuoted(int promise, String words) {
        int section = SECTION[promise].contains(words) ? promise : TERMS;
        int from = SECTION[section].indexOf(words);
        for (int i = from; from >= 0 && i < from + words.length(); i++) {
            QUOTED[section][i] = true;
        }
        return from >= 0;
    }

    /** The parts of sentences of which no word has been quoted. */
    static List<String> untested() {
        List<String> untested = new ArrayList<>();
        for (int section = 0; section < SECTIONS; section++) {
            int start = 0;
            for (int i = 0; i < SECTION[section].length(); i++) {
                if (isEnd(SECTION[section], i)) {
                    addUntested(untested, section, start, i + 1);
                    start = i + 1;
                }
            }
        }
        return untested;
    }

    /** A part ends with its line, or with a full stop or a semicolon behind which a blank stands. */
    private static boolean isEnd(String text, int place) {
        char sign = text.charAt(place);
        boolean isLast = place + 1 == text.length() || Character.isWhitespace(text.charAt(place + 1));
        return sign == '\n' || isLast && (sign == '.' || sign == ';');
    }

    private static void addUntested(List<String> untested, int section, int start, int end) {
        String part = SECTION[section].substring(start, end).strip();
        boolean isCase = !part.isEmpty() && start > 0;
        for (String other : WITHOUT_A_CASE) {
            isCase &= !part.startsWith(other);
        }
        for (int i = start; i < end; i++) {
            isCase &= !QUOTED[section][i];
        }
        if (isCase) {
            untested.add((section == TERMS ? "terms: " : "promise " + section + ": ") + part);
        }
    }
}
