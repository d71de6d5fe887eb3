import java.util.Arrays;

/**
 * A town lit by blushes. The document DOC.md tells what each call answers; words in capitals here are its terms.
 *
 * Every row that a call needs is made with the object and used again, so that a run of calls makes nothing more.
 */
public final class BlushLamps {
    public static final int NONE = -1;

    /** The answer where the question is a fair one and there is nothing to be told. */
    private static final int NOTHING = -2;
    private static final int MOST_CORNERS = 7;
    private static final int MOST_STREETS = 10;
    private static final int MOST_YOUNG = 6;
    private static final int MOST_WORDS = 5;
    private static final int MOST_GLOW = 999;
    private static final int MOST_HOURS = 72;
    private static final int MOST_SEEDS = 20;
    private static final int ROUGE_GLOW = 20;

    private final Tape tape;
    private final Reader reader;
    private final Laws laws;
    private final Course course;
    private final Ways ways;
    private final Posts posts;
    private final Known known;
    private final Past past;
    private final Night now;
    /** A text with a FAULT must leave the town as it is: a text is read into the spare one, and they change places. */
    private Town town;
    private Town spare;
    private int faultPlace;

    public BlushLamps() {
        Town first = new Town();
        Town second = new Town();
        tape = new Tape();
        reader = new Reader(second);
        laws = new Laws();
        course = new Course(first);
        ways = new Ways();
        posts = new Posts();
        known = new Known();
        past = new Past();
        now = new Night(first);
        town = first;
        spare = second;
        faultPlace = NONE;
    }

    public int feed(int a, int b, int c, int d, int e) {
        if (tape.length > Tape.ROOM - 20) {
            return NONE;
        }
        tape.append(a);
        tape.append(b);
        tape.append(c);
        tape.append(d);
        tape.append(e);
        return tape.length;
    }

    public int back(int n) {
        if (n < 0 || n > tape.length) {
            return NONE;
        }
        tape.length -= n;
        return tape.length;
    }

    public int read() {
        int fault = reader.readInto(tape, spare);
        tape.length = 0;
        faultPlace = reader.faultPlace;
        if (fault == 0) {
            settle();
        }
        return fault;
    }

    public int place() {
        return faultPlace;
    }

    public int corner(int corner, int what) {
        if (!isCorner(corner)) {
            return NONE;
        }
        switch (what) {
            case 0: return now.lightAt(corner);
            case 1: return now.whoIsAt(corner);
            case 2: return now.lighter == corner ? 1 : 0;
            case 3: return town.streetsOf(corner);
            default: return NONE;
        }
    }

    public int street(int street, int what) {
        if (!isStreet(street)) {
            return NONE;
        }
        switch (what) {
            case 0: return town.one[street];
            case 1: return town.other[street];
            case 2: return town.span[street];
            case 3: return now.isLit(street) ? 1 : 0;
            case 4: return now.needsOf(street);
            default: return NONE;
        }
    }

    public int young(int young, int what) {
        if (!isYoung(young)) {
            return NONE;
        }
        switch (what) {
            case 0: return town.age[young];
            case 1: return town.temper[young];
            case 2: return now.at[young];
            case 3: return now.glow[young];
            case 4: return now.isHome(young) ? 1 : 0;
            case 5: return now.told[young];
            case 6: return now.since(young);
            case 7: return (now.rouge >> young) & 1;
            case 8: return now.isHome(young) ? 0 : laws.cools(now, young);
            case 9: return !now.isHome(young) && laws.leaves(now, young) ? 1 : 0;
            default: return NONE;
        }
    }

    public int word(int word, int what) {
        if (!isWord(word)) {
            return NONE;
        }
        switch (what) {
            case 0: return now.heat[word];
            case 1: return now.worn[word];
            default: return NONE;
        }
    }

    public int tells(int young, int word, int what) {
        if (!isYoung(young) || !isWord(word)) {
            return NONE;
        }
        switch (what) {
            case 0: return laws.glows(now, young, word);
            case 1: return laws.wears(now, young, word);
            default: return NONE;
        }
    }

    public int step(int street) {
        if (!isStreet(street)) {
            return NONE;
        }
        int next = town.acrossFrom(now.lighter, street);
        if (next == NONE) {
            return NONE;
        }
        beginThing();
        now.lighter = next;
        course.passHours(now, 1, town.seed, true);
        return next;
    }

    public int say(int young, int word) {
        if (!isOut(young) || !isWord(word) || now.at[young] != now.lighter) {
            return NONE;
        }
        beginThing();
        int wears = laws.wears(now, young, word);
        now.glow[young] = laws.glowIfTold(now, young, word);
        now.heat[word] = Math.max(0, now.heat[word] - wears);
        now.worn[word]++;
        now.told[young]++;
        now.toldAt[young] = now.hour;
        return now.glow[young];
    }

    public boolean move(int young, int corner) {
        if (!isOut(young) || !isCorner(corner) || now.at[young] == corner) {
            return false;
        }
        beginThing();
        now.at[young] = corner;
        return true;
    }

    public boolean rouge(int young) {
        if (!isOut(young)) {
            return false;
        }
        beginThing();
        now.glow[young] = Math.min(MOST_GLOW, now.glow[young] + ROUGE_GLOW);
        now.rouge |= 1 << young;
        return true;
    }

    public int hours(int n) {
        if (!areHours(n)) {
            return NONE;
        }
        if (n > 0) {
            beginThing();
            course.passHours(now, n, town.seed, true);
        }
        return now.hour;
    }

    public boolean undo() {
        posts.isStale = true;
        return past.takeBack(now);
    }

    public int darkens(int street) {
        return isStreet(street) ? course.hoursTillDark(now, street) : NONE;
    }

    public int best(int i) {
        if (i != NONE && !isYoung(i)) {
            return NONE;
        }
        posts.search(now);
        if (i == NONE) {
            return posts.most;
        }
        return now.isHome(i) ? NOTHING : posts.found[i];
    }

    public int telling(int young, int what) {
        if (!isYoung(young) || !isEither(what)) {
            return NONE;
        }
        if (town.words == 0 || now.isHome(young)) {
            return NOTHING;
        }
        int word = laws.hottestFor(now, young);
        return what == 0 ? word : laws.glowIfTold(now, young, word);
    }

    public int keep() {
        int young = now.firstOut();
        return town.words == 0 || young == NONE ? NOTHING : laws.mostLasting(now, young);
    }

    public int steps(int from, int to) {
        return isCorner(from) && isCorner(to) ? ways.fewest(town, from, to, 0) : NONE;
    }

    public int round() {
        if (town.corners == 0) {
            return NOTHING;
        }
        return ways.shortestRound(town, now.lighter, now.cornersInUse());
    }

    public int safe(int from) {
        return isCorner(from) ? ways.reached(town, from, now.litStreets()) : NONE;
    }

    public int dark(int from, int to) {
        return isCorner(from) && isCorner(to) ? ways.fewest(town, from, to, now.litStreets()) : NONE;
    }

    public int bridges() {
        return ways.onlyWays(town, now.litStreets());
    }

    public int gather(int what) {
        if (!isEither(what)) {
            return NONE;
        }
        int corner = ways.nearestToAll(now);
        if (corner == NONE) {
            return NOTHING;
        }
        return what == 0 ? corner : ways.stepsOfAll(now, corner);
    }

    public int moves(int street, int what) {
        if (!isStreet(street) || !isEither(what)) {
            return NONE;
        }
        int who = posts.fewestFor(now, street);
        if (who == NONE) {
            return NOTHING;
        }
        return what == 0 ? Integer.bitCount(who) : who;
    }

    public int cut(int from, int to) {
        if (!isCorner(from) || !isCorner(to) || from == to) {
            return NONE;
        }
        return ways.fewestBetween(town, from, to, now.litStreets());
    }

    public int tree() {
        return ways.shortestJoin(town);
    }

    public int twins(int what) {
        if (!isEither(what)) {
            return NONE;
        }
        if (town.words < 2) {
            return NOTHING;
        }
        int pair = laws.mostAlike(now);
        return what == 0 ? pair : laws.apart(now, pair / 10, pair % 10);
    }

    public int brightest(int what) {
        if (!isEither(what)) {
            return NONE;
        }
        if (town.corners == 0) {
            return NOTHING;
        }
        int corner = now.lightestCorner();
        return what == 0 ? corner : now.lightAt(corner);
    }

    public int glowIn(int young, int n) {
        if (!isYoung(young) || !areHours(n)) {
            return NONE;
        }
        return course.nightIn(now, n, town.seed).glow[young];
    }

    public int then(int n, int what) {
        if (!areHours(n) || !isEither(what)) {
            return NONE;
        }
        Night later = course.nightIn(now, n, town.seed);
        return what == 0 ? later.litStreets() : later.home;
    }

    public int year(int street, int n, int s) {
        if (!isStreet(street) || !areHours(n) || s < 1 || s > MOST_SEEDS) {
            return NONE;
        }
        int lit = 0;
        for (int i = 0; i < s; i++) {
            if (course.nightIn(now, n, town.seed + i).isLit(street)) {
                lit++;
            }
        }
        return lit;
    }

    public int tell(int young, int v, boolean so) {
        if (!isOut(young) || !isGlow(v) || known.size >= Known.ROOM) {
            return NONE;
        }
        known.note(young, v, so);
        return known.size - 1;
    }

    public int forget() {
        int were = known.size;
        known.size = 0;
        return were;
    }

    public int words(int k, int what) {
        if (!isKnown(k) || !isEither(what)) {
            return NONE;
        }
        int fit = known.fitting(laws, now, k);
        return what == 0 ? Integer.bitCount(fit) : fit;
    }

    public int look(int k, int v) {
        if (!isKnown(k) || !isGlow(v)) {
            return NONE;
        }
        int fit = known.fitting(laws, now, k);
        return fit == 0 ? NOTHING : Known.mostTelling(laws, now, fit, v);
    }

    public boolean hold(int slot) {
        return past.keepIn(slot, now);
    }

    public boolean restore(int slot) {
        posts.isStale = true;
        return past.takeFrom(slot, now);
    }

    public int count(int what) {
        switch (what) {
            case 0: return town.corners;
            case 1: return town.streets;
            case 2: return town.youngs;
            case 3: return town.words;
            case 4: return now.hour;
            case 5: return town.corners == 0 ? NOTHING : now.lighter;
            case 6: return now.litStreets();
            case 7: return now.home;
            case 8: return tape.length;
            case 9: return past.size;
            case 10: return known.size;
            case 11: return Integer.bitCount(past.heldSlots);
            case 12: return Course.isDraughty(town, now.hour, town.seed) ? 1 : 0;
            case 13: return sumOf(now.glow);
            case 14: return sumOf(now.heat);
            case 15: return now.cornersInUse();
            case 16: return sumOf(now.told);
            case 17: return Integer.bitCount(now.litStreets());
            case 18: return now.rouge;
            case 19: return Integer.bitCount(now.home);
            case 20: return now.needsOfAll();
            default: return NONE;
        }
    }

    private boolean isCorner(int corner) {
        return corner >= 0 && corner < town.corners;
    }

    private boolean isStreet(int street) {
        return street >= 0 && street < town.streets;
    }

    private boolean isYoung(int young) {
        return young >= 0 && young < town.youngs;
    }

    private boolean isOut(int young) {
        return isYoung(young) && !now.isHome(young);
    }

    private boolean isWord(int word) {
        return word >= 0 && word < town.words;
    }

    private boolean isKnown(int k) {
        return k >= 0 && k <= known.size;
    }

    private static boolean isGlow(int v) {
        return v >= 0 && v <= MOST_GLOW;
    }

    private static boolean areHours(int n) {
        return n >= 0 && n <= MOST_HOURS;
    }

    private static boolean isEither(int what) {
        return what == 0 || what == 1;
    }

    private static int sumOf(int[] row) {
        int sum = 0;
        for (int i = 0; i < row.length; i++) {
            sum += row[i];
        }
        return sum;
    }

    private void beginThing() {
        past.note(now);
        posts.isStale = true;
    }

    private void settle() {
        Town old = town;
        town = spare;
        spare = old;
        now.begin(town);
        past.clear();
        known.size = 0;
        posts.isStale = true;
    }

    /** The bytes that were fed and not read yet. */
    private static final class Tape {
        static final int ROOM = 2000;

        final byte[] bytes = new byte[ROOM];
        int length;

        void append(int four) {
            for (int shift = 24; shift >= 0 && length < ROOM; shift -= 8) {
                bytes[length] = (byte) (four >> shift);
                length++;
            }
        }

        /** The byte's number, or NONE behind the tape's end. */
        int byteAt(int i) {
            return i < 0 || i >= length || i >= ROOM ? NONE : bytes[i] & 255;
        }
    }

    /** The TOKENS of a tape, up to the end, the first that is none, or the first that is too many. */
    private static final class Tokens {
        static final int ROOM = 401;
        static final int END = 0;
        static final int BAD = 1;
        static final int NAME = 2;
        static final int INT = 3;
        /** SIGNS have their own byte as their kind; the words in quotes come behind all bytes of SIGNS, in the order of QUOTED. */
        static final int CORNER = 128;
        static final int STREET = 129;
        static final int YOUNG = 130;
        static final int WORD = 131;
        static final int LIGHTER = 132;
        /** The first of the four LAWS. */
        static final int GLOWS = 133;
        static final int DRAUGHT = 137;
        static final int SEED = 138;
        static final int IF = 139;
        static final int THEN = 140;
        static final int ELSE = 141;
        /** The first and the last VAR. */
        static final int HEAT = 142;
        static final int TOLD = 150;

        private static final String QUOTED =
            "corner street young word lighter glows wears cools leaves draught seed if then else heat age temper worn since hour glow which told ";
        private static final int QUOTED_COUNT = 23;
        private static final String SIGNS = ";=+-*/<()";
        private static final int LONGEST_NAME = 8;
        private static final int LONGEST_INT = 4;

        final int[] kinds = new int[ROOM];
        final int[] places = new int[ROOM];
        /** What an INT is worth, or the letters of a NAME as one number. */
        final long[] values = new long[ROOM];
        private final long[] quoted = new long[QUOTED_COUNT];

        Tokens() {
            int words = 0;
            long name = 0;
            for (int i = 0; i < QUOTED.length() && words < QUOTED_COUNT; i++) {
                if (QUOTED.charAt(i) == ' ') {
                    quoted[words] = name;
                    words++;
                    name = 0;
                } else {
                    name = spell(name, QUOTED.charAt(i));
                }
            }
        }

        void cutUp(Tape tape) {
            int at = 0;
            for (int i = 0; i < ROOM; i++) {
                at = behindBlanks(tape, at);
                places[i] = at;
                at = cutOne(tape, at, i);
                if (kinds[i] == END || kinds[i] == BAD) {
                    return;
                }
            }
        }

        private int cutOne(Tape tape, int from, int i) {
            int first = tape.byteAt(from);
            if (isLetter(first)) {
                return cutLetters(tape, from, i);
            }
            if (isDigit(first)) {
                return cutDigits(tape, from, i);
            }
            if (first == NONE) {
                kinds[i] = END;
            } else {
                kinds[i] = SIGNS.indexOf((char) first) >= 0 ? first : BAD;
            }
            return from + 1;
        }

        private int cutLetters(Tape tape, int from, int i) {
            long name = 0;
            int to = from;
            while (to < tape.length && isLetter(tape.byteAt(to))) {
                name = spell(name, tape.byteAt(to));
                to++;
            }
            values[i] = name;
            kinds[i] = to - from > LONGEST_NAME ? BAD : kindOf(name);
            return to;
        }

        private int cutDigits(Tape tape, int from, int i) {
            long number = 0;
            int to = from;
            while (to < tape.length && isDigit(tape.byteAt(to))) {
                number = number * 10 + tape.byteAt(to) - '0';
                to++;
            }
            values[i] = number;
            kinds[i] = to - from > LONGEST_INT ? BAD : INT;
            return to;
        }

        private int kindOf(long name) {
            for (int i = 0; i < QUOTED_COUNT; i++) {
                if (quoted[i] == name) {
                    return CORNER + i;
                }
            }
            return NAME;
        }

        private static int behindBlanks(Tape tape, int from) {
            int to = from;
            while (to < tape.length && isBlank(tape.byteAt(to))) {
                to++;
            }
            return to;
        }

        /** No letter is worth 0, so that two names of up to 8 letters never become the same number. */
        private static long spell(long name, int letter) {
            return name * 27 + letter - 'a' + 1;
        }

        private static boolean isLetter(int c) {
            return c >= 'a' && c <= 'z';
        }

        private static boolean isDigit(int c) {
            return c >= '0' && c <= '9';
        }

        private static boolean isBlank(int c) {
            return c == 9 || c == 10 || c == 13 || c == 32;
        }
    }

    /** Reads the TELLs of a text into a town; it goes on behind a FAULT of names and numbers, as one of form goes ahead of it. */
    private static final class Reader {
        private static final int SYNTAX = 1;
        private static final int TOO_MUCH = 2;
        private static final int TWICE = 3;
        private static final int NO_SUCH = 4;
        private static final int WRONG = 5;
        private static final int MOST_IFS = 4;
        private static final int MOST_NESTED = 6;
        private static final int SUM = 0;
        private static final int PRODUCT = 1;
        private static final int UNIT = 2;

        int faultPlace;
        private final Tokens tokens = new Tokens();
        private final long[] names = new long[MOST_CORNERS + MOST_YOUNG + MOST_WORDS];
        /** Which CORNER bears the name; NONE for one of the YOUNG or of the WORDS. */
        private final int[] cornerNamed = new int[MOST_CORNERS + MOST_YOUNG + MOST_WORDS];
        private int namesTold;
        private Town town;
        private int at;
        private int fault;
        private int laterFault;
        private int laterPlace;

        Reader(Town first) {
            town = first;
        }

        /** The number of the FAULT, 0 without; faultPlace is where it is. */
        int readInto(Tape tape, Town fresh) {
            start(tape, fresh);
            for (int i = 0; i < Tokens.ROOM && fault == 0 && kind() != Tokens.END; i++) {
                int kind = kind();
                switch (kind) {
                    case Tokens.CORNER:
                        readCorner();
                        break;
                    case Tokens.STREET:
                        readStreet();
                        break;
                    case Tokens.YOUNG:
                        readYoung();
                        break;
                    case Tokens.WORD:
                        readWord();
                        break;
                    case Tokens.LIGHTER:
                        pass();
                        town.lighter = takeCorner();
                        break;
                    case Tokens.DRAUGHT:
                        pass();
                        town.draught = takeInt(0, 100);
                        break;
                    case Tokens.SEED:
                        pass();
                        town.seed = takeInt(0, 9999);
                        break;
                    default:
                        // it fails for what is not one of them either
                        readLaw(kind - Tokens.GLOWS);
                }
                expect(';');
            }
            if (fault == 0) {
                fault = laterFault;
                faultPlace = laterPlace;
            }
            return fault;
        }

        private void start(Tape tape, Town fresh) {
            tokens.cutUp(tape);
            fresh.clear();
            town = fresh;
            at = 0;
            namesTold = 0;
            fault = 0;
            faultPlace = NONE;
            laterFault = 0;
            laterPlace = NONE;
        }

        private void readCorner() {
            passOneOf(town.corners, MOST_CORNERS);
            takeNewName(town.corners);
            if (fault == 0) {
                town.corners++;
            }
        }

        private void readStreet() {
            passOneOf(town.streets, MOST_STREETS);
            int one = takeCorner();
            int secondPlace = tokens.places[at];
            int other = takeCorner();
            if (one == other && one != NONE) {
                failLater(TWICE, secondPlace);
            }
            int span = takeInt(1, 99);
            if (fault == 0) {
                town.addStreet(one, other, span);
            }
        }

        private void readYoung() {
            passOneOf(town.youngs, MOST_YOUNG);
            takeNewName(NONE);
            int age = takeInt(10, 40);
            int temper = takeInt(0, 9);
            int corner = takeCorner();
            if (fault == 0) {
                town.addYoung(age, temper, corner);
            }
        }

        private void readWord() {
            passOneOf(town.words, MOST_WORDS);
            takeNewName(NONE);
            int heat = takeInt(0, 99);
            if (fault == 0) {
                town.addWord(heat);
            }
        }

        private void readLaw(int law) {
            if (law < 0 || law >= Town.LAWS) {
                fail(SYNTAX);
                return;
            }
            pass();
            expect('=');
            town.lawStart[law] = town.codeSize;
            for (int ifs = 0; ifs <= MOST_IFS && fault == 0 && kind() == Tokens.IF; ifs++) {
                if (ifs == MOST_IFS) {
                    fail(TOO_MUCH);
                }
                pass();
                readValue(SUM, 0);
                expect('<');
                readValue(SUM, 0);
                expect(Tokens.THEN);
                int jump = town.codeSize;
                town.emit(Town.UNLESS_LESS, 0);
                readValue(SUM, 0);
                expect(Tokens.ELSE);
                town.emit(Town.ANSWER, 0);
                town.aimAtEnd(jump);
            }
            readValue(SUM, 0);
            town.emit(Town.ANSWER, 0);
        }

        private void readValue(int level, int depth) {
            if (level >= UNIT) {
                readUnit(depth);
                return;
            }
            readValue(level + 1, depth);
            for (int i = 0; i < Tokens.ROOM && fault == 0 && levelOf(kind()) == level; i++) {
                int sign = kind();
                pass();
                readValue(level + 1, depth);
                town.emit(sign, 0);
            }
        }

        private void readUnit(int depth) {
            int kind = kind();
            if (kind == Tokens.INT) {
                town.emit(Town.NUMBER, (int) tokens.values[at]);
                pass();
            } else if (kind >= Tokens.HEAT && kind <= Tokens.TOLD) {
                town.emit(Town.VARIABLE, kind - Tokens.HEAT);
                pass();
            } else if (kind != '(') {
                fail(SYNTAX);
            } else if (depth >= MOST_NESTED) {
                fail(TOO_MUCH);
            } else if (fault == 0) {
                pass();
                readValue(SUM, depth + 1);
                expect(')');
            }
        }

        private static int levelOf(int kind) {
            if (kind == '+' || kind == '-') {
                return SUM;
            }
            return kind == '*' || kind == '/' ? PRODUCT : NONE;
        }

        private int kind() {
            return tokens.kinds[at];
        }

        private void passOneOf(int have, int most) {
            if (have >= most) {
                fail(TOO_MUCH);
            }
            pass();
        }

        private void takeNewName(int corner) {
            long name = tokens.values[at];
            int namePlace = tokens.places[at];
            expect(Tokens.NAME);
            if (fault != 0) {
                return;
            }
            if (find(name) != NONE) {
                failLater(TWICE, namePlace);
            }
            if (namesTold < names.length) {
                names[namesTold] = name;
                cornerNamed[namesTold] = corner;
                namesTold++;
            }
        }

        private int takeCorner() {
            int i = find(tokens.values[at]);
            int corner = i == NONE ? NONE : cornerNamed[i];
            int namePlace = tokens.places[at];
            expect(Tokens.NAME);
            if (corner == NONE) {
                failLater(NO_SUCH, namePlace);
            }
            return corner;
        }

        private int takeInt(int least, int most) {
            int number = (int) tokens.values[at];
            int intPlace = tokens.places[at];
            expect(Tokens.INT);
            if (number < least || number > most) {
                failLater(WRONG, intPlace);
            }
            return number;
        }

        private int find(long name) {
            for (int i = 0; i < namesTold; i++) {
                if (names[i] == name) {
                    return i;
                }
            }
            return NONE;
        }

        private void expect(int kind) {
            if (kind() == kind) {
                pass();
            } else {
                fail(SYNTAX);
            }
        }

        /** A TOKEN too many is a FAULT only here, where the form takes it: a FAULT of form at it is the lesser one. */
        private void pass() {
            if (fault != 0) {
                return;
            }
            if (at < Tokens.ROOM - 1) {
                at++;
            } else {
                fault = TOO_MUCH;
                faultPlace = tokens.places[at];
            }
        }

        private void fail(int number) {
            if (fault == 0) {
                fault = number;
                faultPlace = tokens.places[at];
            }
        }

        private void failLater(int number, int where) {
            if (laterFault == 0) {
                laterFault = number;
                laterPlace = where;
            }
        }
    }

    /** What a text tells, which hours do not change. */
    private static final class Town {
        static final int LAWS = 4;
        /** Kinds of the LAWS' code, beside the four SIGNS that reckon, which are their own kinds. */
        static final int NUMBER = 0;
        static final int VARIABLE = 1;
        static final int UNLESS_LESS = 2;
        static final int ANSWER = 3;
        static final int ARGUMENT_BITS = 14;
        /** No TOKEN makes more than one piece of code; six are the LAWS that hold if none are told. */
        static final int CODE_ROOM = 6 + Tokens.ROOM;

        final int[] one = new int[MOST_STREETS];
        final int[] other = new int[MOST_STREETS];
        final int[] span = new int[MOST_STREETS];
        final int[] age = new int[MOST_YOUNG];
        final int[] temper = new int[MOST_YOUNG];
        final int[] firstAt = new int[MOST_YOUNG];
        final int[] firstHeat = new int[MOST_WORDS];
        final int[] lawStart = new int[LAWS];
        final int[] code = new int[CODE_ROOM];
        int codeSize;
        int corners;
        int streets;
        int youngs;
        int words;
        int lighter;
        int draught;
        int seed;

        Town() {
            clear();
        }

        void clear() {
            corners = 0;
            streets = 0;
            youngs = 0;
            words = 0;
            lighter = 0;
            draught = 0;
            seed = 0;
            codeSize = 0;
            lawStart[Laws.GLOWS] = codeSize;
            emit(VARIABLE, Laws.HEAT);
            emit(ANSWER, 0);
            lawStart[Laws.WEARS] = codeSize;
            emit(NUMBER, 1);
            emit(ANSWER, 0);
            lawStart[Laws.COOLS] = codeSize;
            lawStart[Laws.LEAVES] = codeSize;
            emit(NUMBER, 0);
            emit(ANSWER, 0);
        }

        void addStreet(int from, int to, int longness) {
            if (streets < MOST_STREETS) {
                one[streets] = from;
                other[streets] = to;
                span[streets] = longness;
                streets++;
            }
        }

        void addYoung(int years, int mood, int corner) {
            if (youngs < MOST_YOUNG) {
                age[youngs] = years;
                temper[youngs] = mood;
                firstAt[youngs] = corner;
                youngs++;
            }
        }

        void addWord(int heat) {
            if (words < MOST_WORDS) {
                firstHeat[words] = heat;
                words++;
            }
        }

        void emit(int kind, int argument) {
            if (codeSize < CODE_ROOM) {
                code[codeSize] = (kind << ARGUMENT_BITS) | argument;
                codeSize++;
            }
        }

        void aimAtEnd(int jump) {
            if (jump >= 0 && jump < CODE_ROOM) {
                code[jump] = (UNLESS_LESS << ARGUMENT_BITS) | codeSize;
            }
        }

        int streetsOf(int corner) {
            int bits = 0;
            for (int s = 0; s < streets; s++) {
                if (one[s] == corner || other[s] == corner) {
                    bits |= 1 << s;
                }
            }
            return bits;
        }

        /** The CORNER at a STREET's other end, or NONE if it has no end here. */
        int acrossFrom(int corner, int street) {
            if (one[street] == corner) {
                return other[street];
            }
            return other[street] == corner ? one[street] : NONE;
        }
    }

    /** All that goes on in a town, at one hour. */
    private static final class Night {
        /** How many numbers a row needs to hold one. */
        static final int SIZE = 4 + 4 * MOST_YOUNG + 2 * MOST_WORDS;

        Town town;
        int hour;
        int lighter;
        int home;
        int rouge;
        final int[] at = new int[MOST_YOUNG];
        /** Who is HOME glows by 0. */
        final int[] glow = new int[MOST_YOUNG];
        final int[] told = new int[MOST_YOUNG];
        /** 0 if never, as since is the hour then. */
        final int[] toldAt = new int[MOST_YOUNG];
        final int[] heat = new int[MOST_WORDS];
        final int[] worn = new int[MOST_WORDS];

        Night(Town its) {
            town = its;
        }

        void begin(Town its) {
            town = its;
            hour = 0;
            lighter = its.lighter;
            home = 0;
            rouge = 0;
            Arrays.fill(glow, 0);
            Arrays.fill(told, 0);
            Arrays.fill(toldAt, 0);
            Arrays.fill(heat, 0);
            Arrays.fill(worn, 0);
            System.arraycopy(its.firstAt, 0, at, 0, MOST_YOUNG);
            System.arraycopy(its.firstHeat, 0, heat, 0, its.words);
        }

        void copyFrom(Night from) {
            town = from.town;
            hour = from.hour;
            lighter = from.lighter;
            home = from.home;
            rouge = from.rouge;
            System.arraycopy(from.at, 0, at, 0, MOST_YOUNG);
            System.arraycopy(from.glow, 0, glow, 0, MOST_YOUNG);
            System.arraycopy(from.told, 0, told, 0, MOST_YOUNG);
            System.arraycopy(from.toldAt, 0, toldAt, 0, MOST_YOUNG);
            System.arraycopy(from.heat, 0, heat, 0, MOST_WORDS);
            System.arraycopy(from.worn, 0, worn, 0, MOST_WORDS);
        }

        boolean isHome(int young) {
            return ((home >> young) & 1) == 1;
        }

        int since(int young) {
            return hour - toldAt[young];
        }

        int lightAt(int corner) {
            int light = 0;
            for (int y = 0; y < town.youngs; y++) {
                if (at[y] == corner) {
                    light += glow[y];
                }
            }
            return light;
        }

        int whoIsAt(int corner) {
            int bits = 0;
            for (int y = 0; y < town.youngs; y++) {
                if (at[y] == corner && !isHome(y)) {
                    bits |= 1 << y;
                }
            }
            return bits;
        }

        int cornersInUse() {
            int bits = 0;
            for (int y = 0; y < town.youngs; y++) {
                if (!isHome(y)) {
                    bits |= 1 << at[y];
                }
            }
            return bits;
        }

        int firstOut() {
            for (int y = 0; y < town.youngs; y++) {
                if (!isHome(y)) {
                    return y;
                }
            }
            return NONE;
        }

        int lightestCorner() {
            int best = 0;
            for (int c = 1; c < town.corners; c++) {
                if (lightAt(c) > lightAt(best)) {
                    best = c;
                }
            }
            return best;
        }

        int needsOf(int street) {
            return Math.max(0, town.span[street] - lightAt(town.one[street]) - lightAt(town.other[street]));
        }

        boolean isLit(int street) {
            return needsOf(street) == 0;
        }

        int litStreets() {
            int bits = 0;
            for (int s = 0; s < town.streets; s++) {
                if (isLit(s)) {
                    bits |= 1 << s;
                }
            }
            return bits;
        }

        int needsOfAll() {
            int sum = 0;
            for (int s = 0; s < town.streets; s++) {
                sum += needsOf(s);
            }
            return sum;
        }
    }

    /** What the LAWS tell of a night, and the choices among WORDS that follow from them. */
    private static final class Laws {
        static final int GLOWS = 0;
        static final int WEARS = 1;
        static final int COOLS = 2;
        static final int LEAVES = 3;
        static final int HEAT = 0;
        private static final int AGE = 1;
        private static final int TEMPER = 2;
        private static final int WORN = 3;
        private static final int SINCE = 4;
        private static final int HOUR = 5;
        private static final int GLOW = 6;
        private static final int WHICH = 7;
        private static final int TOLD = 8;
        private static final int VARIABLES = 9;
        /** GLOWS, WEARS and COOLS tell no more than this. */
        private static final int MOST_HELD = 99;
        /** Six ( within one another leave two numbers waiting each, and beside them one of a '<' and three of a sum. */
        private static final int STACK_ROOM = 24;

        private final int[] variables = new int[VARIABLES];
        private final int[] stack = new int[STACK_ROOM];

        int glows(Night night, int young, int word) {
            return held(lawOf(GLOWS, night, young, word));
        }

        int wears(Night night, int young, int word) {
            return held(lawOf(WEARS, night, young, word));
        }

        int cools(Night night, int young) {
            return held(lawOf(COOLS, night, young, NONE));
        }

        boolean leaves(Night night, int young) {
            return lawOf(LEAVES, night, young, NONE) > 0;
        }

        int glowIfTold(Night night, int young, int word) {
            if (night.isHome(young)) {
                return 0;
            }
            return Math.min(MOST_GLOW, night.glow[young] + held(lawOf(GLOWS, night, young, word)));
        }

        int hottestFor(Night night, int young) {
            int best = 0;
            int most = NONE;
            for (int w = 0; w < night.town.words; w++) {
                int glow = glowIfTold(night, young, w);
                if (glow > most) {
                    most = glow;
                    best = w;
                }
            }
            return best;
        }

        int mostLasting(Night night, int young) {
            int best = 0;
            int most = -MOST_HELD - 1;
            for (int w = 0; w < night.town.words; w++) {
                int left = night.heat[w] - wears(night, young, w);
                if (left > most) {
                    most = left;
                    best = w;
                }
            }
            return best;
        }

        int apart(Night night, int one, int other) {
            int sum = 0;
            for (int y = 0; y < night.town.youngs; y++) {
                if (!night.isHome(y)) {
                    sum += Math.abs(glows(night, y, one) - glows(night, y, other));
                }
            }
            return sum;
        }

        /** The two WORDS, as 10 * the lesser + the other. */
        int mostAlike(Night night) {
            int best = 1;
            int least = MOST_HELD * MOST_YOUNG + 1;
            for (int one = 0; one < night.town.words; one++) {
                for (int other = one + 1; other < night.town.words; other++) {
                    int apart = apart(night, one, other);
                    if (apart < least) {
                        least = apart;
                        best = 10 * one + other;
                    }
                }
            }
            return best;
        }

        private static int held(int worth) {
            return Math.max(0, Math.min(MOST_HELD, worth));
        }

        private int lawOf(int law, Night night, int young, int word) {
            Town town = night.town;
            variables[HEAT] = word == NONE ? 0 : night.heat[word];
            variables[AGE] = town.age[young];
            variables[TEMPER] = town.temper[young];
            variables[WORN] = word == NONE ? 0 : night.worn[word];
            variables[SINCE] = night.since(young);
            variables[HOUR] = night.hour % 24;
            variables[GLOW] = night.glow[young];
            variables[WHICH] = young;
            variables[TOLD] = night.told[young];
            return run(town, town.lawStart[law]);
        }

        /** Jumps go forwards alone, so that no run has more turns than there is code. */
        private int run(Town town, int start) {
            int top = 0;
            int next = start;
            for (int i = 0; i < Town.CODE_ROOM && next >= 0 && next < town.codeSize; i++) {
                int kind = town.code[next] >> Town.ARGUMENT_BITS;
                int argument = town.code[next] & ((1 << Town.ARGUMENT_BITS) - 1);
                next++;
                if (kind == Town.ANSWER) {
                    return top > 0 ? stack[top - 1] : 0;
                }
                if (kind == Town.NUMBER || kind == Town.VARIABLE) {
                    if (top >= STACK_ROOM || (kind == Town.VARIABLE && argument >= VARIABLES)) {
                        return 0;
                    }
                    stack[top] = kind == Town.NUMBER ? argument : variables[argument];
                    top++;
                    continue;
                }
                if (top < 2 || (kind == '/' && stack[top - 1] == 0)) {
                    return 0;
                }
                top--;
                int a = stack[top - 1];
                int b = stack[top];
                switch (kind) {
                    case '+':
                        stack[top - 1] = a + b;
                        break;
                    case '-':
                        stack[top - 1] = a - b;
                        break;
                    case '*':
                        stack[top - 1] = a * b;
                        break;
                    case '/':
                        stack[top - 1] = b == 0 ? 0 : a / b;
                        break;
                    default:
                        top--;
                        next = a < b ? next : argument;
                }
            }
            return 0;
        }
    }

    /** How HOURS go by, in the night that is or in one tried out. */
    private static final class Course {
        private static final int LONGEST_LIT = 100;

        private final Laws laws = new Laws();
        private final Night trial;

        Course(Town first) {
            trial = new Night(first);
        }

        static boolean isDraughty(Town town, int hour, int seed) {
            return lot(100, seed, 4 * hour) < town.draught;
        }

        void passHours(Night night, int hours, int seed, boolean withDraughts) {
            for (int i = 0; i < hours; i++) {
                passHour(night, withDraughts ? chilledCorner(night, seed) : NONE);
            }
        }

        /** The night in so many HOURS; it stands only till the next question. */
        Night nightIn(Night now, int hours, int seed) {
            trial.copyFrom(now);
            passHours(trial, hours, seed, true);
            return trial;
        }

        int hoursTillDark(Night now, int street) {
            trial.copyFrom(now);
            for (int h = 0; h <= LONGEST_LIT; h++) {
                if (!trial.isLit(street)) {
                    return h;
                }
                passHours(trial, 1, 0, false);
            }
            return NOTHING;
        }

        /** Nobody's LAWS look at anyone else, so that each is done with before the next one without changing what began. */
        private void passHour(Night night, int chilled) {
            for (int y = 0; y < night.town.youngs; y++) {
                if (night.isHome(y)) {
                    continue;
                }
                boolean leaves = laws.leaves(night, y);
                int glow = Math.max(0, night.glow[y] - laws.cools(night, y));
                if (night.at[y] == chilled) {
                    glow /= 2;
                }
                night.glow[y] = leaves ? 0 : glow;
                if (leaves) {
                    night.home |= 1 << y;
                }
            }
            night.hour++;
        }

        private static int chilledCorner(Night night, int seed) {
            if (night.town.corners == 0 || !isDraughty(night.town, night.hour, seed)) {
                return NONE;
            }
            return lot(night.town.corners, seed, 4 * night.hour + 1);
        }

        private static int lot(int n, int seed, int which) {
            int h = stir(stir(seed, 175), which);
            return n <= 0 ? 0 : (h >>> 1) % n;
        }

        private static int stir(int h, int with) {
            int stirred = (h ^ with) * 1103515245 + 12345;
            return stirred ^ (stirred >>> 15);
        }
    }

    /** Ways by STREETS: some are free to go, each of the others counts 1. */
    private static final class Ways {
        private static final int NO_WAY = 1000;

        private final int[] far = new int[MOST_CORNERS];
        private final int[] farBetween = new int[MOST_CORNERS * MOST_CORNERS];

        int fewest(Town town, int from, int to, int free) {
            measure(town, from, free);
            return far[to] >= NO_WAY ? NOTHING : far[to];
        }

        int reached(Town town, int from, int free) {
            measure(town, from, free);
            int bits = 0;
            for (int c = 0; c < town.corners; c++) {
                if (far[c] == 0) {
                    bits |= 1 << c;
                }
            }
            return bits;
        }

        /** Those of the STREETS whose ends nothing but they join. */
        int onlyWays(Town town, int streets) {
            int bits = 0;
            for (int s = 0; s < town.streets; s++) {
                int bit = 1 << s;
                if ((streets & bit) != 0 && fewest(town, town.one[s], town.other[s], streets & ~bit) != 0) {
                    bits |= bit;
                }
            }
            return bits;
        }

        int shortestRound(Town town, int from, int corners) {
            for (int c = 0; c < town.corners; c++) {
                measure(town, c, 0);
                System.arraycopy(far, 0, farBetween, c * MOST_CORNERS, MOST_CORNERS);
            }
            int length = roundFrom(from, corners, 0);
            return length >= NO_WAY ? NOTHING : length;
        }

        /** The CORNER with the fewest steps of all who are out, NONE if there is none. */
        int nearestToAll(Night night) {
            int best = NONE;
            int least = NO_WAY;
            for (int c = 0; c < night.town.corners; c++) {
                int sum = stepsOfAll(night, c);
                if (sum < least) {
                    least = sum;
                    best = c;
                }
            }
            return best;
        }

        int stepsOfAll(Night night, int corner) {
            measure(night.town, corner, 0);
            int sum = 0;
            for (int y = 0; y < night.town.youngs; y++) {
                if (!night.isHome(y)) {
                    sum += far[night.at[y]];
                }
            }
            return sum;
        }

        /** The fewest of the STREETS between any two halves of the town, as that is how few part the two CORNERS. */
        int fewestBetween(Town town, int from, int to, int streets) {
            int least = MOST_STREETS;
            for (int half = 0; half < 1 << town.corners; half++) {
                if (((half >> from) & 1) == 1 && ((half >> to) & 1) == 0) {
                    least = Math.min(least, crossing(town, half, streets));
                }
            }
            return least;
        }

        int shortestJoin(Town town) {
            if (town.corners == 0) {
                return NOTHING;
            }
            int joined = 1;
            int sum = 0;
            for (int i = 1; i < town.corners; i++) {
                int street = shortestOutOf(town, joined);
                if (street == NONE) {
                    return NOTHING;
                }
                joined |= 1 << town.one[street] | 1 << town.other[street];
                sum += town.span[street];
            }
            return sum;
        }

        private void measure(Town town, int from, int free) {
            Arrays.fill(far, NO_WAY);
            far[from] = 0;
            for (int i = 1; i < town.corners; i++) {
                for (int s = 0; s < town.streets; s++) {
                    int cost = 1 - ((free >> s) & 1);
                    int a = town.one[s];
                    int b = town.other[s];
                    far[a] = Math.min(far[a], far[b] + cost);
                    far[b] = Math.min(far[b], far[a] + cost);
                }
            }
        }

        /** All orders are tried: each call has a CORNER less to pass, and there are six at most. */
        private int roundFrom(int from, int left, int depth) {
            int here = left & ~(1 << from);
            if (here == 0 || depth > MOST_CORNERS) {
                return 0;
            }
            int least = NO_WAY;
            for (int c = 0; c < MOST_CORNERS; c++) {
                if (((here >> c) & 1) == 1) {
                    int first = farBetween[from * MOST_CORNERS + c];
                    least = first >= least ? least : Math.min(least, first + roundFrom(c, here, depth + 1));
                }
            }
            return least;
        }

        private static int crossing(Town town, int half, int streets) {
            int count = 0;
            for (int s = 0; s < town.streets; s++) {
                if (((streets >> s) & 1) == 1 && isCrossing(town, half, s)) {
                    count++;
                }
            }
            return count;
        }

        private static int shortestOutOf(Town town, int joined) {
            int best = NONE;
            for (int s = 0; s < town.streets; s++) {
                if (isCrossing(town, joined, s) && (best == NONE || town.span[s] < town.span[best])) {
                    best = s;
                }
            }
            return best;
        }

        private static boolean isCrossing(Town town, int half, int street) {
            return ((half >> town.one[street]) & 1) != ((half >> town.other[street]) & 1);
        }
    }

    /** Who should stand where. */
    private static final class Posts {
        final int[] found = new int[MOST_YOUNG];
        int most;
        /** The search is dear and asked again for each of the YOUNG: what it found holds till something changes. */
        boolean isStale = true;
        private final int[] light = new int[MOST_CORNERS];
        private final int[] gain = new int[MOST_CORNERS];
        private final int[] where = new int[MOST_YOUNG];
        private int last;

        void search(Night night) {
            if (!isStale) {
                return;
            }
            isStale = false;
            most = 0;
            last = NONE;
            int all = 0;
            for (int y = 0; y < night.town.youngs; y++) {
                all += night.glow[y];
                last = night.glow[y] > 0 ? y : last;
            }
            Arrays.fill(light, 0);
            Arrays.fill(where, 0);
            Arrays.fill(found, 0);
            if (last != NONE) {
                stand(night, 0, all);
            }
        }

        /** The fewest YOUNG ones that light the STREET once they are moved there (bits), NONE if all are too few. */
        int fewestFor(Night night, int street) {
            int near = night.whoIsAt(night.town.one[street]) | night.whoIsAt(night.town.other[street]);
            int needs = night.needsOf(street);
            int best = NONE;
            for (int who = 0; who < 1 << night.town.youngs; who++) {
                boolean isFewer = best == NONE || Integer.bitCount(who) < Integer.bitCount(best);
                if (isFewer && (who & (near | night.home)) == 0 && glowOf(night, who) >= needs) {
                    best = who;
                }
            }
            return best;
        }

        /**
         * Tries CORNERS from the lowest on, so that the first of alike ones is found first; rest is how those glow who
         * are not placed yet, and no STREET is lit in the end that all of it at either end would not light.
         */
        private void stand(Night night, int young, int rest) {
            if (young >= last) {
                standLast(night);
                return;
            }
            int hoped = litWith(night.town, rest);
            int glow = night.glow[young];
            int highest = glow == 0 ? 0 : night.town.corners - 1;
            for (int c = lowestFor(night, young); c <= highest && hoped > most; c++) {
                where[young] = c;
                light[c] += glow;
                stand(night, young + 1, rest - glow);
                light[c] -= glow;
            }
        }

        /** One look at the STREETS tells of every CORNER how many more are lit by the last one there. */
        private void standLast(Night night) {
            Town town = night.town;
            Arrays.fill(gain, 0);
            int lit = 0;
            for (int s = 0; s < town.streets; s++) {
                int lacks = town.span[s] - light[town.one[s]] - light[town.other[s]];
                if (lacks <= 0) {
                    lit++;
                } else if (lacks <= night.glow[last]) {
                    gain[town.one[s]]++;
                    gain[town.other[s]]++;
                }
            }
            for (int c = 0; c < town.corners; c++) {
                if (lit + gain[c] > most) {
                    most = lit + gain[c];
                    where[last] = c;
                    System.arraycopy(where, 0, found, 0, MOST_YOUNG);
                }
            }
        }

        /** Two who glow alike could change places: the later one never stands lower than the one ahead. */
        private int lowestFor(Night night, int young) {
            for (int y = young - 1; y >= 0; y--) {
                if (night.glow[y] == night.glow[young]) {
                    return where[y];
                }
            }
            return 0;
        }

        private int litWith(Town town, int more) {
            int count = 0;
            for (int s = 0; s < town.streets; s++) {
                if (light[town.one[s]] + light[town.other[s]] + more >= town.span[s]) {
                    count++;
                }
            }
            return count;
        }

        private static int glowOf(Night night, int who) {
            int sum = 0;
            for (int y = 0; y < night.town.youngs; y++) {
                if (((who >> y) & 1) == 1) {
                    sum += night.glow[y];
                }
            }
            return sum;
        }
    }

    /** What is TOLD of a WORD unknown. */
    private static final class Known {
        static final int ROOM = 20;

        int size;
        private final int[] whom = new int[ROOM];
        private final int[] least = new int[ROOM];
        private final int[] so = new int[ROOM];

        void note(int young, int v, boolean isSo) {
            if (size < ROOM) {
                whom[size] = young;
                least[size] = v;
                so[size] = isSo ? 1 : 0;
                size++;
            }
        }

        int fitting(Laws laws, Night night, int k) {
            int bits = 0;
            for (int w = 0; w < night.town.words; w++) {
                if (isFitting(laws, night, k, w)) {
                    bits |= 1 << w;
                }
            }
            return bits;
        }

        static int mostTelling(Laws laws, Night night, int fit, int v) {
            int best = NOTHING;
            int fewest = MOST_WORDS + 1;
            for (int y = 0; y < night.town.youngs; y++) {
                int left = night.isHome(y) ? fewest : leftAtWorst(laws, night, fit, y, v);
                if (left < fewest) {
                    fewest = left;
                    best = y;
                }
            }
            return best;
        }

        private boolean isFitting(Laws laws, Night night, int k, int word) {
            for (int i = 0; i < k && i < size; i++) {
                boolean glowsSo = laws.glowIfTold(night, whom[i], word) >= least[i];
                if (glowsSo != (so[i] == 1)) {
                    return false;
                }
            }
            return true;
        }

        private static int leftAtWorst(Laws laws, Night night, int fit, int young, int v) {
            int yes = 0;
            for (int w = 0; w < night.town.words; w++) {
                if (((fit >> w) & 1) == 1 && laws.glowIfTold(night, young, w) >= v) {
                    yes++;
                }
            }
            return Math.max(yes, Integer.bitCount(fit) - yes);
        }
    }

    /** The nights to which one can go back: those ahead of the last things done, and those held. */
    private static final class Past {
        static final int ROOM = 40;
        static final int SLOTS = 3;

        int size;
        int heldSlots;
        private final int[] done = new int[ROOM * Night.SIZE];
        private final int[] slots = new int[SLOTS * Night.SIZE];
        private int next;

        void clear() {
            size = 0;
            heldSlots = 0;
        }

        void note(Night night) {
            write(night, done, next);
            next = (next + 1) % ROOM;
            size = Math.min(ROOM, size + 1);
        }

        boolean takeBack(Night night) {
            if (size == 0) {
                return false;
            }
            size--;
            next = (next + ROOM - 1) % ROOM;
            writeBack(done, next, night);
            return true;
        }

        boolean keepIn(int slot, Night night) {
            if (slot < 0 || slot >= SLOTS) {
                return false;
            }
            write(night, slots, slot);
            heldSlots |= 1 << slot;
            return true;
        }

        boolean takeFrom(int slot, Night night) {
            if (slot < 0 || slot >= SLOTS || ((heldSlots >> slot) & 1) == 0) {
                return false;
            }
            writeBack(slots, slot, night);
            size = 0;
            return true;
        }

        private static void write(Night night, int[] row, int i) {
            int to = i * Night.SIZE;
            row[to] = night.hour;
            row[to + 1] = night.lighter;
            row[to + 2] = night.home;
            row[to + 3] = night.rouge;
            to += 4;
            System.arraycopy(night.at, 0, row, to, MOST_YOUNG);
            System.arraycopy(night.glow, 0, row, to + MOST_YOUNG, MOST_YOUNG);
            System.arraycopy(night.told, 0, row, to + 2 * MOST_YOUNG, MOST_YOUNG);
            System.arraycopy(night.toldAt, 0, row, to + 3 * MOST_YOUNG, MOST_YOUNG);
            System.arraycopy(night.heat, 0, row, to + 4 * MOST_YOUNG, MOST_WORDS);
            System.arraycopy(night.worn, 0, row, to + 4 * MOST_YOUNG + MOST_WORDS, MOST_WORDS);
        }

        private static void writeBack(int[] row, int i, Night night) {
            int from = i * Night.SIZE;
            night.hour = row[from];
            night.lighter = row[from + 1];
            night.home = row[from + 2];
            night.rouge = row[from + 3];
            from += 4;
            System.arraycopy(row, from, night.at, 0, MOST_YOUNG);
            System.arraycopy(row, from + MOST_YOUNG, night.glow, 0, MOST_YOUNG);
            System.arraycopy(row, from + 2 * MOST_YOUNG, night.told, 0, MOST_YOUNG);
            System.arraycopy(row, from + 3 * MOST_YOUNG, night.toldAt, 0, MOST_YOUNG);
            System.arraycopy(row, from + 4 * MOST_YOUNG, night.heat, 0, MOST_WORDS);
            System.arraycopy(row, from + 4 * MOST_YOUNG + MOST_WORDS, night.worn, 0, MOST_WORDS);
        }
    }
}
