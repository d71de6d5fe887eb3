import java.io.IOException;
import java.nio.file.Files;
import java.nio.file.Path;
import java.util.ArrayList;
import java.util.List;
import java.util.regex.Matcher;
import java.util.regex.Pattern;

/**
 * The document's own words, so that a test can quote the sentence that it holds the class to, and so that it shows which
 * sentences about an edge no test has quoted.
 */
final class Sentences {
    /** The section of the document with the words in capitals; a promise has its own number as its section. */
    static final int TERMS = 0;
    private static final int PROMISES = 41;
    /** Words by which the document tells of an edge: the least and the most, what there is not, what is alike, what is refused. */
    private static final Pattern EDGE = Pattern.compile("at most|at least|\\d \\.\\. \\d|NONE|-2|false|[Nn]o such|alike|nobody|[Nn]othing|"
        + "nobody|wrap|rounded|divided|HOME: 0|longer|longest|\\d(st|th)\\b|empty|last one|never|held|as much|more than|less than|"
        + "if not told|without|if there|not told|all by how|by all|one and the same|\\bno [A-Z]+|\\bnone|others|else 0|elsewhere|anywhere|"
        + "first one|\\(0\\)|\\(1\\)|: 0\\)|likewise|told ahead|told already|not gone|not HOME|not LIT|since|nor the|stays|20 are|40 can");

    private final String[] sections = new String[PROMISES + 1];
    private final boolean[][] quoted = new boolean[PROMISES + 1][];

    Sentences(Path document) throws IOException {
        String all = Files.exists(document) ? Files.readString(document).replaceAll("\\s+", " ") : "";
        for (int i = 0; i <= PROMISES; i++) {
            sections[i] = section(all, i);
            quoted[i] = new boolean[sections[i].length()];
        }
    }

    private static String section(String all, int number) {
        int from = all.indexOf(number == TERMS ? "## Terms " : "## Promise " + number + ":");
        int to = from < 0 ? -1 : all.indexOf("## ", from + 3);
        return from < 0 ? "" : all.substring(from, to < 0 ? all.length() : to);
    }

    /** How often the section has these words: 1, if the quote is right and none but the one sentence is meant. */
    int quote(int section, String words) {
        String text = sections[section];
        if (text.isEmpty()) {
            return 1;
        }
        int times = 0;
        for (int at = text.indexOf(words); at >= 0; at = text.indexOf(words, at + 1)) {
            java.util.Arrays.fill(quoted[section], at, at + words.length(), true);
            times++;
        }
        return times;
    }

    List<String> edgesNotQuoted() {
        List<String> left = new ArrayList<>();
        for (int i = 0; i <= PROMISES; i++) {
            int body = i == TERMS ? 0 : sections[i].lastIndexOf('`') + 1;
            Matcher m = EDGE.matcher(sections[i]);
            while (m.find()) {
                if (m.start() >= body && !quoted[i][m.start()]) {
                    int to = Math.min(sections[i].length(), m.end() + 30);
                    left.add((i == TERMS ? "Terms" : "Promise " + i) + ": .. "
                        + sections[i].substring(Math.max(body, m.start() - 30), to) + " ..");
                }
            }
        }
        return left;
    }
}
