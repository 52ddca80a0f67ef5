import java.io.IOException;
import java.nio.charset.StandardCharsets;
import java.nio.file.Files;
import java.nio.file.Path;
import java.util.regex.Matcher;
import java.util.regex.Pattern;

/**
 * Boundary cases, each told by the document's own words. At the end the document is read: what was
 * quoted must stand there, and no clause of the promises in hand may go without a quote.
 */
class Edges extends Due {
    static final int TERMS = 0;

    private static final Path DOCUMENT = Path.of("..", "shared", "DOC.md");
    private static final int LOW = Integer.MIN_VALUE;
    private static final int HIGH = Integer.MAX_VALUE;

    private final int first;
    private final String[] sections;
    private final boolean[][] quoted;

    Edges(String name, int first, int last) {
        super(name);
        this.first = first;
        sections = new String[last - first + 1];
        quoted = new boolean[sections.length][];
        String document = read();
        for (int i = 0; i < sections.length; i++) {
            sections[i] = section(document, first + i);
            quoted[i] = new boolean[sections[i].length()];
        }
    }

    private static String read() {
        try {
            return new String(Files.readAllBytes(DOCUMENT), StandardCharsets.UTF_8);
        } catch (IOException e) {
            System.out.println("no document at " + DOCUMENT);
            return "";
        }
    }

    /** The words of a promise, or of the terms, on one line. */
    private static String section(String document, int number) {
        String heading = number == TERMS ? "## Terms" : "## Promise " + number + ":";
        Matcher m = Pattern.compile("(?ms)^" + heading + ".*?$(.*?)(?=^## |\\z)").matcher(document);
        if (!m.find()) {
            return "";
        }
        return m.group(1).replaceAll("(?m)^Ahead of the calls.*$", "").replaceAll("(?m)^```.*$", "")
                .replaceAll("(?m)^\\d\\. ", "").replaceAll("(?m)^`[^`]*`: ", "").replaceAll("\\s+", " ").strip();
    }

    /** A new object for a case that the document tells by these words. */
    void sentence(int number, String words) {
        anew((number == TERMS ? "terms" : "promise " + number) + ", \"" + words + "\"");
        String section = sections[number - first];
        int at = section.indexOf(words);
        due("the words stand in the document", at >= 0, true);
        for (; at >= 0; at = section.indexOf(words, at + 1)) {
            for (int p = at; p < at + words.length(); p++) {
                quoted[number - first][p] = true;
            }
        }
    }

    @Override
    void finish() {
        for (int i = 0; i < sections.length; i++) {
            anew("promise " + (first + i));
            due("the promise stands in the document", sections[i].isEmpty(), false);
            checkClauses(i);
        }
        super.finish();
    }

    private void checkClauses(int i) {
        Matcher m = Pattern.compile("(?:[^.;]|\\.\\.|[.;](?! |$))+").matcher(sections[i]);
        while (m.find()) {
            boolean met = m.group().isBlank() || m.group().length() < 3;
            for (int p = m.start(); p < m.end(); p++) {
                met |= quoted[i][p];
            }
            due("a test quotes \"" + m.group().strip() + "\"", met, true);
        }
    }

    /** Numbers that are none of 0 to most. */
    static int[] outside(int most) {
        return new int[] {LOW, LOW + 1, -most - 1, -2, -1, most + 1, most + 2, HIGH - 1, HIGH};
    }

    /** All eight words, one a day, from a house; the parrot at 0 has heard each once, a as 0 and so on. */
    void hearAll() {
        house(0, "abcdefgh");
        parrots("08");
        x.days(8);
    }

    /** Six parrots, each of which hears a word of its own. */
    void hearOneEach(String words) {
        parrots("08;08;08;08;08;08");
        trial("k0k1k2k3k4k5");
        for (int p = 0; p < 6; p++) {
            house(0, words.substring(p, p + 1));
            trial("k" + p + "d1k" + p);
        }
    }

    void sayWorths(long... worths) {
        rule("v");
        for (int w = 0; w < worths.length; w++) {
            due("the worth of word " + w, x.word(0, w, 4), worths[w]);
        }
    }
}
