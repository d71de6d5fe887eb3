import java.util.ArrayDeque;
import java.util.ArrayList;
import java.util.Deque;
import java.util.HashMap;
import java.util.HashSet;
import java.util.List;
import java.util.Map;
import java.util.Set;
import java.util.function.IntPredicate;
import java.util.regex.Matcher;
import java.util.regex.Pattern;

/**
 * The document once more, written apart from the class and by other means (everything is tried out, nothing is kept),
 * so that FuzzTest can hold the answers of both against one another.
 */
final class Model {
    private static final Set<String> VARS = Set.of("heat", "age", "temper", "worn", "since", "hour", "glow", "which", "told");
    private static final Set<String> LAWS = Set.of("glows", "wears", "cools", "leaves");
    private static final Map<String, String> FORMS = Map.of("corner", "N;", "street", "NNI;", "young", "NIIN;", "word", "NI;",
        "lighter", "N;", "draught", "I;", "seed", "I;");
    private static final Map<String, Integer> MOST = Map.of("corner", 7, "street", 10, "young", 6, "word", 5);
    private static final Set<String> OTHERS = Set.of("if", "then", "else");

    private record Token(String text, int place) { }

    private record Fault(int number, int place) { }

    private record Told(int young, int v, boolean so) { }

    private static final class Young implements Cloneable {
        int age, temper, corner, glow, told, last;
        boolean home, rouge, everTold;

        Young copy() {
            try {
                return (Young) clone();
            } catch (CloneNotSupportedException e) {
                throw new IllegalStateException(e);
            }
        }
    }

    private static final class World {
        int hour, lighter = -2;
        List<Young> young = new ArrayList<>();
        List<int[]> words = new ArrayList<>();

        World copy() {
            World w = new World();
            w.hour = hour;
            w.lighter = lighter;
            for (Young y : young) {
                w.young.add(y.copy());
            }
            for (int[] word : words) {
                w.words.add(word.clone());
            }
            return w;
        }
    }

    private static final class Plan {
        List<String> corners = new ArrayList<>();
        List<int[]> streets = new ArrayList<>();
        Map<String, List<String>> laws = new HashMap<>(Map.of("glows", List.of("heat"), "wears", List.of("1"),
            "cools", List.of("0"), "leaves", List.of("0")));
        int draught, seed;
    }

    private String tape = "";
    private int place = -1;
    private Plan plan = new Plan();
    private World now = new World();
    private List<World> undone = new ArrayList<>();
    private List<Told> told = new ArrayList<>();
    private World[] slots = new World[3];

    // ---- the text

    int feed(byte[] twenty) {
        if (tape.length() + 20 > 2000) {
            return -1;
        }
        StringBuilder all = new StringBuilder(tape);
        for (byte b : twenty) {
            all.append((char) (b & 255));
        }
        tape = all.toString();
        return tape.length();
    }

    int back(int n) {
        if (n < 0 || n > tape.length()) {
            return -1;
        }
        tape = tape.substring(0, tape.length() - n);
        return tape.length();
    }

    int place() {
        return place;
    }

    int read() {
        String text = tape;
        tape = "";
        List<Token> tokens = tokens(text);
        Fault fault = formFault(tokens, text.length());
        Plan freshPlan = new Plan();
        World freshWorld = new World();
        if (fault == null) {
            fault = meaningFault(tokens, freshPlan, freshWorld);
        }
        place = fault == null ? -1 : fault.place;
        if (fault != null) {
            return fault.number;
        }
        plan = freshPlan;
        now = freshWorld;
        undone = new ArrayList<>();
        told = new ArrayList<>();
        slots = new World[3];
        return 0;
    }

    private static List<Token> tokens(String text) {
        List<Token> all = new ArrayList<>();
        Matcher m = Pattern.compile("[a-z]+|[0-9]+|[^\\x09\\x0a\\x0d\\x20]", Pattern.DOTALL).matcher(text);
        while (m.find()) {
            all.add(new Token(m.group(), m.start()));
        }
        return all;
    }

    private static boolean isQuoted(String t) {
        return VARS.contains(t) || LAWS.contains(t) || FORMS.containsKey(t) || OTHERS.contains(t);
    }

    private static char sort(String t) {
        if (t.matches("[a-z]{1,8}")) {
            return isQuoted(t) ? 'Q' : 'N';
        }
        if (t.matches("[0-9]{1,4}")) {
            return 'I';
        }
        return t.length() == 1 && ";=+-*/<()".contains(t) ? t.charAt(0) : '?';
    }

    /** A machine with states for the form: what is due next, a LAW's part and how deep its ( are. */
    private static Fault formFault(List<Token> tokens, int length) {
        Map<String, Integer> told = new HashMap<>();
        String due = "";
        boolean inLaw = false;
        String part = "";
        int ifs = 0;
        int depth = 0;
        boolean unitDue = false;
        boolean ifMayCome = false;
        for (int i = 0; i < tokens.size(); i++) {
            String t = tokens.get(i).text;
            char sort = sort(t);
            Fault syntax = new Fault(1, tokens.get(i).place);
            Fault room = new Fault(2, tokens.get(i).place);
            boolean tooMuch = i >= 400;
            if (sort == '?') {
                return syntax;
            }
            if (inLaw) {
                if (part.equals("=")) {
                    if (sort != '=') {
                        return syntax;
                    }
                    part = "last";
                    unitDue = true;
                    ifMayCome = true;
                } else if (unitDue) {
                    if (ifMayCome && t.equals("if")) {
                        ifs++;
                        tooMuch |= ifs > 4;
                        part = "left";
                        ifMayCome = false;
                    } else if (sort == 'I' || VARS.contains(t)) {
                        unitDue = false;
                        ifMayCome = false;
                    } else if (sort == '(') {
                        depth++;
                        tooMuch |= depth > 6;
                        ifMayCome = false;
                    } else {
                        return syntax;
                    }
                } else if ("+-*/".contains(t)) {
                    unitDue = true;
                } else if (depth > 0) {
                    if (sort != ')') {
                        return syntax;
                    }
                    depth--;
                } else if (part.equals("left") && sort == '<') {
                    part = "right";
                    unitDue = true;
                } else if (part.equals("right") && t.equals("then")) {
                    part = "then";
                    unitDue = true;
                } else if (part.equals("then") && t.equals("else")) {
                    part = "last";
                    unitDue = true;
                    ifMayCome = true;
                } else if (part.equals("last") && sort == ';') {
                    inLaw = false;
                } else {
                    return syntax;
                }
            } else if (due.isEmpty()) {
                if (LAWS.contains(t)) {
                    inLaw = true;
                    part = "=";
                    ifs = 0;
                } else if (FORMS.containsKey(t)) {
                    due = FORMS.get(t);
                    int many = told.merge(t, 1, Integer::sum);
                    tooMuch |= MOST.containsKey(t) && many > MOST.get(t);
                } else {
                    return syntax;
                }
            } else {
                if (sort != due.charAt(0)) {
                    return syntax;
                }
                due = due.substring(1);
            }
            if (tooMuch) {
                return room;
            }
        }
        return inLaw || !due.isEmpty() ? new Fault(1, length) : null;
    }

    private static Fault meaningFault(List<Token> tokens, Plan plan, World world) {
        Set<String> names = new HashSet<>();
        for (int i = 0; i < tokens.size();) {
            int end = i;
            while (!tokens.get(end).text.equals(";")) {
                end++;
            }
            List<Token> tell = tokens.subList(i, end);
            i = end + 1;
            Fault fault = oneMeaning(tell, plan, world, names);
            if (fault != null) {
                return fault;
            }
        }
        if (world.lighter < 0 && !plan.corners.isEmpty()) {
            world.lighter = 0;
        }
        return null;
    }

    private static Fault oneMeaning(List<Token> tell, Plan plan, World world, Set<String> names) {
        String sort = tell.get(0).text;
        if (LAWS.contains(sort)) {
            List<String> law = new ArrayList<>();
            for (Token t : tell.subList(2, tell.size())) {
                law.add(t.text);
            }
            plan.laws.put(sort, law);
            return null;
        }
        List<Token> rest = tell.subList(1, tell.size());
        if (Set.of("corner", "young", "word").contains(sort) && !names.add(rest.get(0).text)) {
            return new Fault(3, rest.get(0).place);
        }
        switch (sort) {
            case "corner":
                plan.corners.add(rest.get(0).text);
                return null;
            case "street": {
                int a = plan.corners.indexOf(rest.get(0).text);
                int b = plan.corners.indexOf(rest.get(1).text);
                if (a < 0) {
                    return new Fault(4, rest.get(0).place);
                }
                if (b < 0 || a == b) {
                    return new Fault(b < 0 ? 4 : 3, rest.get(1).place);
                }
                plan.streets.add(new int[] {a, b, number(rest.get(2))});
                return within(rest.get(2), 1, 99);
            }
            case "young": {
                Young y = new Young();
                y.age = number(rest.get(1));
                y.temper = number(rest.get(2));
                y.corner = plan.corners.indexOf(rest.get(3).text);
                world.young.add(y);
                Fault f = within(rest.get(1), 10, 40);
                f = f == null ? within(rest.get(2), 0, 9) : f;
                return f == null && y.corner < 0 ? new Fault(4, rest.get(3).place) : f;
            }
            case "word":
                world.words.add(new int[] {number(rest.get(1)), 0});
                return within(rest.get(1), 0, 99);
            case "lighter":
                world.lighter = plan.corners.indexOf(rest.get(0).text);
                return world.lighter < 0 ? new Fault(4, rest.get(0).place) : null;
            case "draught":
                plan.draught = number(rest.get(0));
                return within(rest.get(0), 0, 100);
            default:
                plan.seed = number(rest.get(0));
                return within(rest.get(0), 0, 9999);
        }
    }

    private static int number(Token t) {
        return Integer.parseInt(t.text);
    }

    private static Fault within(Token t, int least, int most) {
        return number(t) < least || number(t) > most ? new Fault(5, t.place) : null;
    }

    // ---- the laws: a LAW's TOKENS are split at its weakest sign, again and again

    private int law(World w, String name, int young, int word) {
        Young y = w.young.get(young);
        Map<String, Integer> vars = new HashMap<>();
        vars.put("heat", word < 0 ? 0 : w.words.get(word)[0]);
        vars.put("worn", word < 0 ? 0 : w.words.get(word)[1]);
        vars.put("age", y.age);
        vars.put("temper", y.temper);
        vars.put("since", y.everTold ? w.hour - y.last : w.hour);
        vars.put("hour", w.hour % 24);
        vars.put("glow", y.home ? 0 : y.glow);
        vars.put("which", young);
        vars.put("told", y.told);
        try {
            return choose(plan.laws.get(name), vars);
        } catch (ArithmeticException divided) {
            return 0;
        }
    }

    private static int choose(List<String> law, Map<String, Integer> vars) {
        if (!law.get(0).equals("if")) {
            return worth(law, vars);
        }
        int less = law.indexOf("<");
        int then = law.indexOf("then");
        int other = law.indexOf("else");
        if (worth(law.subList(1, less), vars) < worth(law.subList(less + 1, then), vars)) {
            return worth(law.subList(then + 1, other), vars);
        }
        return choose(law.subList(other + 1, law.size()), vars);
    }

    private static int worth(List<String> e, Map<String, Integer> vars) {
        for (String signs : new String[] {"+-", "*/"}) {
            int depth = 0;
            for (int i = e.size() - 1; i > 0; i--) {
                String t = e.get(i);
                depth += t.equals(")") ? 1 : t.equals("(") ? -1 : 0;
                if (depth == 0 && signs.contains(t)) {
                    int a = worth(e.subList(0, i), vars);
                    int b = worth(e.subList(i + 1, e.size()), vars);
                    return t.equals("+") ? a + b : t.equals("-") ? a - b : t.equals("*") ? a * b : a / b;
                }
            }
        }
        if (e.get(0).equals("(")) {
            return worth(e.subList(1, e.size() - 1), vars);
        }
        return vars.containsKey(e.get(0)) ? vars.get(e.get(0)) : Integer.parseInt(e.get(0));
    }

    private static int held(int n) {
        return n < 0 ? 0 : n > 99 ? 99 : n;
    }

    private int glowThen(World w, int young, int word) {
        Young y = w.young.get(young);
        return y.home ? 0 : Math.min(999, y.glow + held(law(w, "glows", young, word)));
    }

    private static long unsigned(long h) {
        return h & 0xffffffffL;
    }

    private static int lot(int n, int seed, int which) {
        long h = unsigned(seed);
        for (long it : new long[] {175, unsigned(which)}) {
            h = unsigned(unsigned(h ^ it) * 1103515245L + 12345L);
            h = h ^ h / 32768;
        }
        return (int) (h / 2 % n);
    }

    private boolean draughty(World w, int seed) {
        return lot(100, seed, 4 * w.hour) < plan.draught;
    }

    private World anHour(World before, int seed, boolean draughts) {
        World after = before.copy();
        boolean blows = draughts && draughty(before, seed) && !plan.corners.isEmpty();
        int where = blows ? lot(plan.corners.size(), seed, 4 * before.hour + 1) : -1;
        for (int i = 0; i < before.young.size(); i++) {
            Young was = before.young.get(i);
            Young is = after.young.get(i);
            if (was.home) {
                continue;
            }
            is.glow = Math.max(0, is.glow - held(law(before, "cools", i, -1)));
            if (is.corner == where) {
                is.glow = is.glow / 2;
            }
            if (law(before, "leaves", i, -1) > 0) {
                is.home = true;
                is.glow = 0;
            }
        }
        after.hour++;
        return after;
    }

    private World in(World w, int n, int seed, boolean draughts) {
        World after = w;
        for (int i = 0; i < n; i++) {
            after = anHour(after, seed, draughts);
        }
        return after;
    }

    // ---- light

    private static int light(World w, int corner) {
        return w.young.stream().filter(y -> !y.home && y.corner == corner).mapToInt(y -> y.glow).sum();
    }

    private int needs(World w, int street) {
        int[] s = plan.streets.get(street);
        return Math.max(0, s[2] - light(w, s[0]) - light(w, s[1]));
    }

    private int lit(World w) {
        return bits(plan.streets.size(), s -> needs(w, s) == 0);
    }

    private static int bits(int n, IntPredicate is) {
        int bits = 0;
        for (int i = 0; i < n; i++) {
            bits += is.test(i) ? 1 << i : 0;
        }
        return bits;
    }

    private boolean isCorner(int c) {
        return c >= 0 && c < plan.corners.size();
    }

    private boolean isStreet(int s) {
        return s >= 0 && s < plan.streets.size();
    }

    private boolean isYoung(int y) {
        return y >= 0 && y < now.young.size();
    }

    private boolean isOut(int y) {
        return isYoung(y) && !now.young.get(y).home;
    }

    private boolean isWord(int w) {
        return w >= 0 && w < now.words.size();
    }

    private boolean nobodyOut() {
        return now.young.stream().allMatch(y -> y.home);
    }

    // ---- promises 6 to 16

    int corner(int c, int what) {
        if (!isCorner(c)) {
            return -1;
        }
        return switch (what) {
            case 0 -> light(now, c);
            case 1 -> bits(now.young.size(), y -> isOut(y) && now.young.get(y).corner == c);
            case 2 -> now.lighter == c ? 1 : 0;
            case 3 -> bits(plan.streets.size(), s -> plan.streets.get(s)[0] == c || plan.streets.get(s)[1] == c);
            default -> -1;
        };
    }

    int street(int s, int what) {
        if (!isStreet(s) || what < 0 || what > 4) {
            return -1;
        }
        return what < 3 ? plan.streets.get(s)[what] : what == 4 ? needs(now, s) : needs(now, s) == 0 ? 1 : 0;
    }

    int young(int i, int what) {
        if (!isYoung(i)) {
            return -1;
        }
        Young y = now.young.get(i);
        return switch (what) {
            case 0 -> y.age;
            case 1 -> y.temper;
            case 2 -> y.corner;
            case 3 -> y.home ? 0 : y.glow;
            case 4 -> y.home ? 1 : 0;
            case 5 -> y.told;
            case 6 -> y.everTold ? now.hour - y.last : now.hour;
            case 7 -> y.rouge ? 1 : 0;
            case 8 -> y.home ? 0 : held(law(now, "cools", i, -1));
            case 9 -> !y.home && law(now, "leaves", i, -1) > 0 ? 1 : 0;
            default -> -1;
        };
    }

    int word(int w, int what) {
        return isWord(w) && (what == 0 || what == 1) ? now.words.get(w)[what] : -1;
    }

    int tells(int y, int w, int what) {
        if (!isYoung(y) || !isWord(w) || what < 0 || what > 1) {
            return -1;
        }
        return held(law(now, what == 0 ? "glows" : "wears", y, w));
    }

    private World begin() {
        undone.add(now);
        if (undone.size() > 40) {
            undone.remove(0);
        }
        now = now.copy();
        return now;
    }

    int step(int s) {
        if (!isStreet(s) || (plan.streets.get(s)[0] != now.lighter && plan.streets.get(s)[1] != now.lighter)) {
            return -1;
        }
        World w = begin();
        w.lighter = plan.streets.get(s)[0] + plan.streets.get(s)[1] - w.lighter;
        now = anHour(w, plan.seed, true);
        return now.lighter;
    }

    int say(int y, int word) {
        if (!isOut(y) || !isWord(word) || now.young.get(y).corner != now.lighter) {
            return -1;
        }
        World before = now;
        World w = begin();
        w.young.get(y).glow = glowThen(before, y, word);
        w.young.get(y).told++;
        w.young.get(y).everTold = true;
        w.young.get(y).last = w.hour;
        w.words.get(word)[0] = Math.max(0, w.words.get(word)[0] - held(law(before, "wears", y, word)));
        w.words.get(word)[1]++;
        return w.young.get(y).glow;
    }

    boolean move(int y, int c) {
        if (!isOut(y) || !isCorner(c) || now.young.get(y).corner == c) {
            return false;
        }
        begin().young.get(y).corner = c;
        return true;
    }

    boolean rouge(int y) {
        if (!isOut(y)) {
            return false;
        }
        Young it = begin().young.get(y);
        it.glow = Math.min(999, it.glow + 20);
        it.rouge = true;
        return true;
    }

    int hours(int n) {
        if (n < 0 || n > 72) {
            return -1;
        }
        if (n > 0) {
            begin();
            now = in(now, n, plan.seed, true);
        }
        return now.hour;
    }

    boolean undo() {
        if (undone.isEmpty()) {
            return false;
        }
        now = undone.remove(undone.size() - 1);
        return true;
    }

    // ---- promises 17 to 34

    int darkens(int s) {
        if (!isStreet(s)) {
            return -1;
        }
        for (int h = 0; h <= 100; h++) {
            if (needs(in(now, h, 0, false), s) > 0) {
                return h;
            }
        }
        return -2;
    }

    int best(int i) {
        if (i != -1 && !isYoung(i)) {
            return -1;
        }
        if (isYoung(i) && now.young.get(i).home) {
            return -2;
        }
        int n = plan.corners.size();
        List<Integer> out = new ArrayList<>();
        for (int y = 0; y < now.young.size(); y++) {
            if (isOut(y)) {
                out.add(y);
            }
        }
        long all = 1;
        for (int k = 0; k < out.size(); k++) {
            all *= n;
        }
        int most = -1;
        int where = -1;
        for (long code = 0; code < all; code++) {
            int[] light = new int[n];
            long left = code;
            int here = -1;
            for (int k = out.size() - 1; k >= 0; k--) {
                int c = (int) (left % n);
                left /= n;
                light[c] += now.young.get(out.get(k)).glow;
                here = out.get(k) == i ? c : here;
            }
            int lit = 0;
            for (int[] s : plan.streets) {
                lit += light[s[0]] + light[s[1]] >= s[2] ? 1 : 0;
            }
            if (lit > most) {
                most = lit;
                where = here;
            }
        }
        return i == -1 ? most : where;
    }

    int telling(int y, int what) {
        if (!isYoung(y) || what < 0 || what > 1) {
            return -1;
        }
        if (now.words.isEmpty() || !isOut(y)) {
            return -2;
        }
        int best = 0;
        for (int w = 1; w < now.words.size(); w++) {
            best = glowThen(now, y, w) > glowThen(now, y, best) ? w : best;
        }
        return what == 0 ? best : glowThen(now, y, best);
    }

    int keep() {
        if (now.words.isEmpty() || nobodyOut()) {
            return -2;
        }
        int first = 0;
        while (!isOut(first)) {
            first++;
        }
        int best = 0;
        for (int w = 1; w < now.words.size(); w++) {
            int left = now.words.get(w)[0] - held(law(now, "wears", first, w));
            int most = now.words.get(best)[0] - held(law(now, "wears", first, best));
            best = left > most ? w : best;
        }
        return best;
    }

    /** How far each CORNER is, by breadth; a STREET for which is(..) is false cannot be gone. */
    private int[] breadth(int from, IntPredicate is) {
        int[] far = new int[plan.corners.size()];
        java.util.Arrays.fill(far, -2);
        far[from] = 0;
        Deque<Integer> next = new ArrayDeque<>(List.of(from));
        while (!next.isEmpty()) {
            int c = next.remove();
            for (int s = 0; s < plan.streets.size(); s++) {
                int[] ends = plan.streets.get(s);
                if (is.test(s) && (ends[0] == c || ends[1] == c)) {
                    int d = ends[0] + ends[1] - c;
                    if (far[d] < 0) {
                        far[d] = far[c] + 1;
                        next.add(d);
                    }
                }
            }
        }
        return far;
    }

    int steps(int from, int to) {
        return isCorner(from) && isCorner(to) ? breadth(from, s -> true)[to] : -1;
    }

    int round() {
        if (plan.corners.isEmpty()) {
            return -2;
        }
        int targets = count(15);
        // states: where one is and what was passed, gone through by breadth
        Map<Integer, Integer> far = new HashMap<>();
        Deque<Integer> next = new ArrayDeque<>();
        int first = now.lighter * 128 + (1 << now.lighter);
        far.put(first, 0);
        next.add(first);
        while (!next.isEmpty()) {
            int state = next.remove();
            int c = state / 128;
            int passed = state % 128;
            if ((passed & targets) == targets) {
                return far.get(state);
            }
            for (int[] ends : plan.streets) {
                if (ends[0] == c || ends[1] == c) {
                    int d = ends[0] + ends[1] - c;
                    int then = d * 128 + (passed | 1 << d);
                    if (!far.containsKey(then)) {
                        far.put(then, far.get(state) + 1);
                        next.add(then);
                    }
                }
            }
        }
        return -2;
    }

    int safe(int from) {
        if (!isCorner(from)) {
            return -1;
        }
        int lit = lit(now);
        int[] far = breadth(from, s -> (lit >> s & 1) == 1);
        return bits(far.length, c -> far[c] >= 0);
    }

    int dark(int from, int to) {
        if (!isCorner(from) || !isCorner(to)) {
            return -1;
        }
        int lit = lit(now);
        int least = -2;
        for (int set = 0; set < 1 << plan.streets.size(); set++) {
            int chosen = set;
            int darkOnes = Integer.bitCount(chosen & ~lit);
            if ((chosen & lit) == 0 && (least < 0 || darkOnes < least)
                && breadth(from, s -> ((chosen | lit) >> s & 1) == 1)[to] >= 0) {
                least = darkOnes;
            }
        }
        return least;
    }

    int bridges() {
        int lit = lit(now);
        return bits(plan.streets.size(), s -> (lit >> s & 1) == 1
            && breadth(plan.streets.get(s)[0], t -> t != s && (lit >> t & 1) == 1)[plan.streets.get(s)[1]] < 0);
    }

    int gather(int what) {
        if (what < 0 || what > 1) {
            return -1;
        }
        int best = -2;
        int least = -2;
        for (int c = 0; c < plan.corners.size(); c++) {
            int[] far = breadth(c, s -> true);
            int sum = 0;
            boolean all = true;
            for (Young y : now.young) {
                all &= y.home || far[y.corner] >= 0;
                sum += y.home ? 0 : far[y.corner];
            }
            if (all && (best < 0 || sum < least)) {
                best = c;
                least = sum;
            }
        }
        return what == 0 ? best : least;
    }

    int moves(int street, int what) {
        if (!isStreet(street) || what < 0 || what > 1) {
            return -1;
        }
        int[] s = plan.streets.get(street);
        for (int few = 0; few <= 6; few++) {
            for (int who = 0; who < 1 << now.young.size(); who++) {
                if (Integer.bitCount(who) != few) {
                    continue;
                }
                World w = now.copy();
                boolean can = true;
                for (int y = 0; y < w.young.size(); y++) {
                    Young it = w.young.get(y);
                    if ((who >> y & 1) == 1) {
                        can &= !it.home && it.corner != s[0] && it.corner != s[1];
                        it.corner = s[0];
                    }
                }
                if (can && needs(w, street) == 0) {
                    return what == 0 ? few : who;
                }
            }
        }
        return -2;
    }

    int cut(int from, int to) {
        if (!isCorner(from) || !isCorner(to) || from == to) {
            return -1;
        }
        int lit = lit(now);
        int least = 99;
        for (int set = 0; set < 1 << plan.streets.size(); set++) {
            int gone = set;
            if ((gone & ~lit) == 0 && Integer.bitCount(gone) < least
                && breadth(from, s -> ((lit & ~gone) >> s & 1) == 1)[to] < 0) {
                least = Integer.bitCount(gone);
            }
        }
        return least;
    }

    int tree() {
        if (plan.corners.isEmpty()) {
            return -2;
        }
        int least = -2;
        for (int set = 0; set < 1 << plan.streets.size(); set++) {
            int chosen = set;
            int sum = 0;
            for (int s = 0; s < plan.streets.size(); s++) {
                sum += (chosen >> s & 1) * plan.streets.get(s)[2];
            }
            if ((least < 0 || sum < least)
                && java.util.Arrays.stream(breadth(0, s -> (chosen >> s & 1) == 1)).allMatch(f -> f >= 0)) {
                least = sum;
            }
        }
        return least;
    }

    int twins(int what) {
        if (what < 0 || what > 1) {
            return -1;
        }
        int least = -2;
        int pair = -2;
        for (int a = 0; a < now.words.size(); a++) {
            for (int b = a + 1; b < now.words.size(); b++) {
                int sum = 0;
                for (int y = 0; y < now.young.size(); y++) {
                    sum += isOut(y) ? Math.abs(tells(y, a, 0) - tells(y, b, 0)) : 0;
                }
                if (pair < 0 || sum < least) {
                    least = sum;
                    pair = 10 * a + b;
                }
            }
        }
        return what == 0 ? pair : least;
    }

    int brightest(int what) {
        if (what < 0 || what > 1) {
            return -1;
        }
        int best = -2;
        int most = -2;
        for (int c = 0; c < plan.corners.size(); c++) {
            if (light(now, c) > most) {
                best = c;
                most = light(now, c);
            }
        }
        return what == 0 ? best : most;
    }

    int glowIn(int y, int n) {
        return isYoung(y) && n >= 0 && n <= 72 ? in(now, n, plan.seed, true).young.get(y).glow : -1;
    }

    int then(int n, int what) {
        if (n < 0 || n > 72 || what < 0 || what > 1) {
            return -1;
        }
        World w = in(now, n, plan.seed, true);
        return what == 0 ? lit(w) : bits(w.young.size(), y -> w.young.get(y).home);
    }

    int year(int street, int n, int s) {
        if (!isStreet(street) || n < 0 || n > 72 || s < 1 || s > 20) {
            return -1;
        }
        int many = 0;
        for (int seed = plan.seed; seed < plan.seed + s; seed++) {
            many += needs(in(now, n, seed, true), street) == 0 ? 1 : 0;
        }
        return many;
    }

    // ---- promises 35 to 41

    int tell(int y, int v, boolean so) {
        if (!isOut(y) || v < 0 || v > 999 || told.size() == 20) {
            return -1;
        }
        told.add(new Told(y, v, so));
        return told.size() - 1;
    }

    int forget() {
        int were = told.size();
        told = new ArrayList<>();
        return were;
    }

    private int fit(List<Told> known) {
        return bits(now.words.size(), w -> known.stream().allMatch(t -> (glowThen(now, t.young, w) >= t.v) == t.so));
    }

    int words(int k, int what) {
        if (k < 0 || k > told.size() || what < 0 || what > 1) {
            return -1;
        }
        int fit = fit(told.subList(0, k));
        return what == 0 ? Integer.bitCount(fit) : fit;
    }

    int look(int k, int v) {
        if (k < 0 || k > told.size() || v < 0 || v > 999) {
            return -1;
        }
        List<Told> known = told.subList(0, k);
        if (fit(known) == 0) {
            return -2;
        }
        int best = -2;
        int fewest = 99;
        for (int y = 0; y < now.young.size(); y++) {
            int worst = 0;
            for (boolean so : new boolean[] {true, false}) {
                List<Told> more = new ArrayList<>(known);
                more.add(new Told(y, v, so));
                worst = Math.max(worst, Integer.bitCount(fit(more)));
            }
            if (isOut(y) && worst < fewest) {
                best = y;
                fewest = worst;
            }
        }
        return best;
    }

    boolean hold(int slot) {
        if (slot < 0 || slot > 2) {
            return false;
        }
        slots[slot] = now.copy();
        return true;
    }

    boolean restore(int slot) {
        if (slot < 0 || slot > 2 || slots[slot] == null) {
            return false;
        }
        now = slots[slot].copy();
        undone = new ArrayList<>();
        return true;
    }

    int count(int what) {
        return switch (what) {
            case 0 -> plan.corners.size();
            case 1 -> plan.streets.size();
            case 2 -> now.young.size();
            case 3 -> now.words.size();
            case 4 -> now.hour;
            case 5 -> now.lighter;
            case 6 -> lit(now);
            case 7 -> bits(now.young.size(), y -> now.young.get(y).home);
            case 8 -> tape.length();
            case 9 -> undone.size();
            case 10 -> told.size();
            case 11 -> (slots[0] == null ? 0 : 1) + (slots[1] == null ? 0 : 1) + (slots[2] == null ? 0 : 1);
            case 12 -> draughty(now, plan.seed) ? 1 : 0;
            case 13 -> now.young.stream().filter(y -> !y.home).mapToInt(y -> y.glow).sum();
            case 14 -> now.words.stream().mapToInt(w -> w[0]).sum();
            case 15 -> bits(plan.corners.size(), c -> corner(c, 1) != 0);
            case 16 -> now.words.stream().mapToInt(w -> w[1]).sum();
            case 17 -> Integer.bitCount(lit(now));
            case 18 -> bits(now.young.size(), y -> now.young.get(y).rouge);
            case 19 -> (int) now.young.stream().filter(y -> y.home).count();
            case 20 -> {
                int sum = 0;
                for (int s = 0; s < plan.streets.size(); s++) {
                    sum += needs(now, s);
                }
                yield sum;
            }
            default -> -1;
        };
    }
}
