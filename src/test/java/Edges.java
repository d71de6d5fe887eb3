import java.util.ArrayList;
import java.util.List;
import java.util.function.IntUnaryOperator;

/** What the tests of the document's edges share: each test first quotes the sentence that it is for. */
abstract class Edges {
    static final int NONE = BlushLamps.NONE;
    static final int NOTHING = -2;
    static final int MIN = Integer.MIN_VALUE;
    static final int MAX = Integer.MAX_VALUE;

    private final Check check;
    private final Sentences sentences;
    private String about = "";

    Edges(Check check, Sentences sentences) {
        this.check = check;
        this.sentences = sentences;
    }

    abstract void look();

    void terms(String words) {
        quote(Sentences.TERMS, words);
    }

    void promise(int number, String words) {
        quote(number, words);
    }

    private void quote(int section, String words) {
        about = (section == Sentences.TERMS ? "Terms" : "Promise " + section) + " '" + words + "'";
        check.due(about + " in the document, how often", sentences.quote(section, words), 1);
    }

    void due(String call, long got, long want) {
        check.due(about + ": " + call, got, want);
    }

    void due(String call, boolean got, boolean want) {
        check.due(about + ": " + call, got, want);
    }

    void same(String call, List<Integer> got, List<Integer> want) {
        if (!got.equals(want)) {
            System.out.println(about + ": " + call + " is now " + got + ", was " + want);
        }
        check.due(about + ": " + call + " is as it was", got.equals(want), true);
    }

    /** Numbers that are not among 0 .. size - 1: those beside them, those that shifts and indices wrap to, and the farthest. */
    static int[] outside(int size) {
        List<Integer> all = new ArrayList<>();
        for (int n : new int[] {-1, size, -2, size + 1, MIN, MAX, 31, 32, 33, 64, 256, 65536, MIN + 1, -32}) {
            if (n < 0 || n >= size) {
                all.add(n);
            }
        }
        return all.stream().mapToInt(Integer::intValue).toArray();
    }

    /** Of the numbers 0 .. size - 1 alone the call does not answer NONE. */
    void noSuch(String call, int size, IntUnaryOperator asked) {
        for (int n : outside(size)) {
            due(call + " of " + n, asked.applyAsInt(n), NONE);
        }
        for (int n = 0; n < size; n++) {
            due(call + " of " + n + " is one", asked.applyAsInt(n) != NONE, true);
        }
    }

    /** All that can be seen of what goes on: a call that refuses leaves it as it was. */
    static List<Integer> seen(BlushLamps x) {
        List<Integer> all = new ArrayList<>();
        for (int what = 0; what <= 20; what++) {
            all.add(x.count(what));
        }
        for (int c = 0; c < x.count(0); c++) {
            for (int what = 0; what < 4; what++) {
                all.add(x.corner(c, what));
            }
        }
        for (int s = 0; s < x.count(1); s++) {
            for (int what = 0; what < 5; what++) {
                all.add(x.street(s, what));
            }
        }
        for (int y = 0; y < x.count(2); y++) {
            for (int what = 0; what < 10; what++) {
                all.add(x.young(y, what));
            }
        }
        for (int w = 0; w < x.count(3); w++) {
            all.add(x.word(w, 0));
            all.add(x.word(w, 1));
        }
        all.add(x.place());
        return all;
    }

    static BlushLamps town(String text) {
        return Check.town(text);
    }

    /** So much ROUGE, 20 each time. */
    static void rouge(BlushLamps x, int young, int times) {
        for (int i = 0; i < times; i++) {
            x.rouge(young);
        }
    }
}
