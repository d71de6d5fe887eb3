import java.util.ArrayList;
import java.util.List;
import java.util.Random;

/** Runs of calls by fixed seeds, each answer held against the Model's. An argument: how many runs. */
final class FuzzTest {
    private static final int MOST_CALLS = 512;
    private static final String[] VARS = {"heat", "age", "temper", "worn", "since", "hour", "glow", "which", "told"};

    private final Check check;
    private final Random random;
    private final BlushLamps lamps = new BlushLamps();
    private final Model model = new Model();
    private final int run;
    private int calls;

    private FuzzTest(Check check, int run) {
        this.check = check;
        this.run = run;
        this.random = new Random(run);
    }

    public static void main(String[] args) {
        int runs = args.length > 0 ? Integer.parseInt(args[0]) : 1500;
        int first = args.length > 1 ? Integer.parseInt(args[1]) : 0;
        Check check = new Check("FuzzTest");
        for (int run = first; run < first + runs && !check.isAnyWrong(); run++) {
            new FuzzTest(check, run).go();
        }
        check.end();
    }

    private void go() {
        while (calls < MOST_CALLS && !check.isAnyWrong()) {
            // an empty town has little to ask of
            boolean isPoor = model.count(1) == 0 || model.count(2) == 0 || model.count(3) == 0;
            if (calls == 0 || oneIn(isPoor ? 5 : 200)) {
                readSome();
            } else if (random.nextInt(3) == 0) {
                doSomething();
            } else {
                askSomething();
            }
        }
    }

    private int below(int n) {
        return random.nextInt(n);
    }

    private boolean oneIn(int n) {
        return below(n) == 0;
    }

    private void due(String call, int got, int want) {
        calls++;
        check.due("run " + run + ", call " + calls + ": " + call, got, want);
    }

    private void due(String call, boolean got, boolean want) {
        due(call, got ? 1 : 0, want ? 1 : 0);
    }

    // ---- texts

    private void readSome() {
        String text = oneIn(40) ? manyTokens() : text();
        for (int i = below(4) == 0 ? 1 + below(2) : 0; i > 0; i--) {
            text = spoilt(text);
        }
        if (text.length() > 2000) {
            text = text.substring(0, 2000);
        }
        if (calls + text.length() / 20 + 4 > MOST_CALLS) {
            calls = MOST_CALLS;
            return;
        }
        byte[] all = Check.bytes(text);
        for (int from = 0; from < all.length; from += 20) {
            feed(Check.twenty(all, from));
        }
        int over = (20 - all.length % 20) % 20;
        due("back(" + over + ")", lamps.back(over), model.back(over));
        int fault = model.read();
        due("read() of " + text, lamps.read(), fault);
        due("place() of " + text, lamps.place(), model.place());
    }

    private void feed(int[] f) {
        byte[] twenty = new byte[20];
        for (int i = 0; i < 20; i++) {
            twenty[i] = (byte) (f[i / 4] >> 24 - i % 4 * 8);
        }
        due("feed(..)", lamps.feed(f[0], f[1], f[2], f[3], f[4]), model.feed(twenty));
    }

    private String blank() {
        return oneIn(8) ? new String[] {"\n", "\t", "\r ", "  "}[below(4)] : " ";
    }

    private String text() {
        List<String> tells = new ArrayList<>();
        int corners = oneIn(40) ? 8 : oneIn(5) ? below(8) : 2 + below(6);
        for (int c = 0; c < corners; c++) {
            tells.add("corner" + blank() + "c" + (char) ('a' + c));
        }
        int streets = corners == 0 ? 0 : oneIn(40) ? 11 : oneIn(3) ? below(11) : 10;
        for (int s = 0; s < streets; s++) {
            int a = below(corners);
            int b = corners == 1 || oneIn(200) ? a : (a + 1 + below(corners - 1)) % corners;
            int span = oneIn(300) ? 100 : oneIn(300) ? 0 : 1 + below(oneIn(2) ? 99 : 25);
            if (corners > 1) {
                tells.add("street" + blank() + "c" + (char) ('a' + a) + blank() + "c" + (char) ('a' + b) + blank() + span);
            }
        }
        int young = corners == 0 ? 0 : oneIn(40) ? 7 : oneIn(4) ? below(7) : 2 + below(4);
        for (int y = 0; y < young; y++) {
            String corner = "c" + (char) ('a' + below(oneIn(100) ? 9 : corners));
            int age = oneIn(200) ? 41 : 10 + below(31);
            int temper = oneIn(200) ? 10 : below(10);
            tells.add("young y" + (char) ('a' + y) + blank() + age + blank() + temper + blank() + corner);
        }
        int words = oneIn(40) ? 6 : oneIn(4) ? below(6) : 2 + below(4);
        for (int w = 0; w < words; w++) {
            tells.add("word w" + (char) ('a' + w) + blank() + (oneIn(100) ? 100 : below(100)));
        }
        if (corners > 0 && oneIn(2)) {
            tells.add("lighter c" + (char) ('a' + below(corners)));
        }
        for (String law : new String[] {"glows", "wears", "cools", "leaves"}) {
            for (int i = below(law.equals("leaves") ? 2 : 3); i > 0; i--) {
                tells.add(law + " = " + law(law.equals("leaves")));
            }
        }
        if (oneIn(2)) {
            tells.add("draught " + (oneIn(50) ? 101 : below(101)));
        }
        if (oneIn(2)) {
            tells.add("seed " + below(10000));
        }
        if (oneIn(50) && !tells.isEmpty()) {
            tells.add(tells.get(below(tells.size())));
        }
        if (oneIn(60) && tells.size() > 1) {
            java.util.Collections.swap(tells, below(tells.size()), below(tells.size()));
        }
        StringBuilder all = new StringBuilder();
        for (String tell : tells) {
            all.append(tell).append(oneIn(4) ? " ;" : ";").append(oneIn(2) ? blank() : "");
        }
        return all.toString();
    }

    private String law(boolean rarely) {
        StringBuilder law = new StringBuilder();
        for (int i = oneIn(2) ? below(oneIn(20) ? 6 : 3) : 0; i > 0; i--) {
            law.append("if ").append(sum(0)).append('<').append(sum(0)).append(" then ").append(sum(0)).append(" else ");
        }
        return law.append(rarely ? "since - " + below(90) : sum(0)).toString();
    }

    private String sum(int depth) {
        StringBuilder e = new StringBuilder(unit(depth));
        for (int i = below(3); i > 0; i--) {
            e.append(oneIn(3) ? " " : "").append("+-*/+-".charAt(below(6))).append(oneIn(3) ? " " : "").append(unit(depth));
        }
        return e.toString();
    }

    private String unit(int depth) {
        if (depth < 8 && oneIn(5)) {
            return "(" + sum(depth + 1) + ")";
        }
        return oneIn(3) ? "" + below(oneIn(5) ? 10000 : 20) : VARS[below(VARS.length)];
    }

    /** About 400 TOKENS, so that the 401st falls on all sorts of places. */
    private String manyTokens() {
        StringBuilder e = new StringBuilder("corner a;word b 9;");
        while (e.length() < 60) {
            e.append("seed ").append(below(99)).append(';');
        }
        e.append("glows=");
        int units = 165 + below(30);
        for (int i = 0; i < units; i++) {
            e.append("1").append("+-*".charAt(below(3)));
        }
        e.append("1;");
        for (int i = below(8); i > 0; i--) {
            e.append(oneIn(2) ? "corner c" + (char) ('a' + i) + ";" : "seed 1;");
        }
        return e.toString();
    }

    private String spoilt(String text) {
        if (text.isEmpty()) {
            return oneIn(2) ? " " : "x";
        }
        int at = below(text.length());
        String[] bits = {";", "=", "(", ")", "<", "if", "9", "12345", "abcdefghi", "\u00e9", "A", "", "", " ", "\0", "else", ".", "!", "young"};
        String bit = bits[below(bits.length)];
        switch (below(4)) {
            case 0: return text.substring(0, at) + bit + text.substring(at);
            case 1: return text.substring(0, at) + bit + text.substring(at + 1);
            case 2: return text.substring(0, at);
            default:
                int to = Math.min(text.length(), at + 1 + below(6));
                return text.substring(0, at) + text.substring(to);
        }
    }

    // ---- calls

    /** Mostly a number that there is, now and then one just outside or far off. */
    private int about(int n) {
        if (oneIn(25)) {
            return new int[] {-1, n, -2, Integer.MAX_VALUE, Integer.MIN_VALUE, n + 1, 31, 32}[below(8)];
        }
        return below(Math.max(1, n));
    }

    private int aboutHours() {
        return oneIn(30) ? new int[] {-1, 73, 72, 100}[below(4)] : oneIn(3) ? below(73) : below(5);
    }

    private int corners() {
        return model.count(0);
    }

    private void doSomething() {
        int y = about(model.count(2));
        int w = about(model.count(3));
        int c = about(corners());
        switch (below(13)) {
            case 0: {
                int s = about(model.count(1));
                due("step(" + s + ")", lamps.step(s), model.step(s));
                return;
            }
            case 1:
            case 2:
            case 3: {
                int here = oneIn(5) ? 0 : model.corner(Math.max(0, model.count(5)), 1);
                int who = here > 0 ? Integer.numberOfTrailingZeros(here) : y;
                due("say(" + who + "," + w + ")", lamps.say(who, w), model.say(who, w));
                return;
            }
            case 4:
                due("move(" + y + "," + c + ")", lamps.move(y, c), model.move(y, c));
                return;
            case 5:
            case 6:
                due("rouge(" + y + ")", lamps.rouge(y), model.rouge(y));
                return;
            case 7: {
                int n = aboutHours();
                due("hours(" + n + ")", lamps.hours(n), model.hours(n));
                return;
            }
            case 8:
                for (int i = oneIn(12) ? 45 : 1; i > 0 && calls < MOST_CALLS; i--) {
                    due("undo()", lamps.undo(), model.undo());
                }
                return;
            case 9:
            case 10: {
                int v = oneIn(20) ? below(1002) - 1 : below(120);
                boolean so = oneIn(2);
                due("tell(" + y + "," + v + "," + so + ")", lamps.tell(y, v, so), model.tell(y, v, so));
                return;
            }
            case 11: {
                int slot = below(oneIn(5) ? 6 : 3) - (oneIn(5) ? 1 : 0);
                if (oneIn(2)) {
                    due("hold(" + slot + ")", lamps.hold(slot), model.hold(slot));
                } else {
                    due("restore(" + slot + ")", lamps.restore(slot), model.restore(slot));
                }
                return;
            }
            default:
                doSomethingRare();
        }
    }

    private void doSomethingRare() {
        if (oneIn(3)) {
            due("forget()", lamps.forget(), model.forget());
        } else if (oneIn(4)) {
            // the 41st thing done and more
            for (int i = 0; i < 50 && calls < MOST_CALLS; i++) {
                due("hours(1)", lamps.hours(1), model.hours(1));
            }
        } else if (oneIn(4)) {
            // a tape that is full
            for (int i = 0; i < 102 && calls < MOST_CALLS; i++) {
                feed(new int[] {random.nextInt(), random.nextInt(), random.nextInt(), random.nextInt(), random.nextInt()});
            }
            int n = below(2200) - 50;
            due("back(" + n + ")", lamps.back(n), model.back(n));
            due("read()", lamps.read(), model.read());
            due("place()", lamps.place(), model.place());
        } else {
            int n = below(4) - 1;
            due("back(" + n + ")", lamps.back(n), model.back(n));
        }
    }

    private void askSomething() {
        int what = about(2);
        switch (below(5)) {
            case 0:
                askOfOne();
                return;
            case 1:
                askOfWays(what);
                return;
            case 2:
                askOfLater(what);
                return;
            case 3:
                askOfWords(what);
                return;
            default:
                int sort = oneIn(20) ? about(21) : below(21);
                due("count(" + sort + ")", lamps.count(sort), model.count(sort));
        }
    }

    private void askOfOne() {
        int c = about(corners());
        int s = about(model.count(1));
        int y = about(model.count(2));
        int w = about(model.count(3));
        int what = about(11);
        switch (below(6)) {
            case 0: due("corner(" + c + "," + what % 5 + ")", lamps.corner(c, what % 5), model.corner(c, what % 5)); return;
            case 1: due("street(" + s + "," + what % 6 + ")", lamps.street(s, what % 6), model.street(s, what % 6)); return;
            case 2: due("young(" + y + "," + what + ")", lamps.young(y, what), model.young(y, what)); return;
            case 3: due("word(" + w + "," + what % 3 + ")", lamps.word(w, what % 3), model.word(w, what % 3)); return;
            case 4: due("place()", lamps.place(), model.place()); return;
            default: due("tells(" + y + "," + w + "," + what % 3 + ")", lamps.tells(y, w, what % 3), model.tells(y, w, what % 3));
        }
    }

    private void askOfWays(int what) {
        int a = about(corners());
        int b = about(corners());
        switch (below(9)) {
            case 0: due("steps(" + a + "," + b + ")", lamps.steps(a, b), model.steps(a, b)); return;
            case 1: due("round()", lamps.round(), model.round()); return;
            case 2: due("safe(" + a + ")", lamps.safe(a), model.safe(a)); return;
            case 3: due("dark(" + a + "," + b + ")", lamps.dark(a, b), model.dark(a, b)); return;
            case 4: due("bridges()", lamps.bridges(), model.bridges()); return;
            case 5: due("gather(" + what + ")", lamps.gather(what), model.gather(what)); return;
            case 6: due("cut(" + a + "," + b + ")", lamps.cut(a, b), model.cut(a, b)); return;
            case 7: due("tree()", lamps.tree(), model.tree()); return;
            default: due("brightest(" + what + ")", lamps.brightest(what), model.brightest(what));
        }
    }

    private void askOfLater(int what) {
        int s = about(model.count(1));
        int y = about(model.count(2));
        int n = aboutHours();
        switch (below(6)) {
            case 0: due("darkens(" + s + ")", lamps.darkens(s), model.darkens(s)); return;
            case 1: due("glowIn(" + y + "," + n + ")", lamps.glowIn(y, n), model.glowIn(y, n)); return;
            case 2: due("then(" + n + "," + what + ")", lamps.then(n, what), model.then(n, what)); return;
            case 3: {
                int seeds = oneIn(20) ? below(3) * 11 - 1 : 1 + below(oneIn(5) ? 20 : 4);
                due("year(" + s + "," + n + "," + seeds + ")", lamps.year(s, n, seeds), model.year(s, n, seeds));
                return;
            }
            case 4: due("moves(" + s + "," + what + ")", lamps.moves(s, what), model.moves(s, what)); return;
            default:
                boolean isDear = corners() > 5 && model.count(2) - model.count(19) > 5;
                if (!isDear || oneIn(10)) {
                    int i = oneIn(3) ? -1 : y;
                    due("best(" + i + ")", lamps.best(i), model.best(i));
                }
        }
    }

    private void askOfWords(int what) {
        int y = about(model.count(2));
        int k = oneIn(3) ? model.count(10) : about(model.count(10) + 1);
        int v = oneIn(20) ? below(1002) - 1 : below(120);
        switch (below(5)) {
            case 0: due("telling(" + y + "," + what + ")", lamps.telling(y, what), model.telling(y, what)); return;
            case 1: due("keep()", lamps.keep(), model.keep()); return;
            case 2: due("twins(" + what + ")", lamps.twins(what), model.twins(what)); return;
            case 3: due("words(" + k + "," + what + ")", lamps.words(k, what), model.words(k, what)); return;
            default: due("look(" + k + "," + v + ")", lamps.look(k, v), model.look(k, v));
        }
    }
}
