import java.util.List;
import java.util.Set;

/** The edges of section I of the Terms and of promises 1 to 5: the tape, TOKENS, the form of a text, its FAULTS. */
final class EdgesOfTexts extends Edges {
    private static final int SYNTAX = 1;
    private static final int ROOM = 2;
    private static final int TWICE = 3;
    private static final int NAME = 4;
    private static final int WRONG = 5;
    private static final Set<Integer> BLANKS = Set.of(9, 10, 13, 32);
    private static final String[] QUOTED = {"corner", "street", "young", "word", "lighter", "glows", "wears", "cools", "leaves",
        "draught", "seed", "if", "then", "else", "heat", "age", "temper", "worn", "since", "hour", "glow", "which", "told"};
    private static final String TWO = "corner a;corner b;";

    EdgesOfTexts(Check check, Sentences sentences) {
        super(check, sentences);
    }

    @Override
    void look() {
        aFullText();
        blanks();
        theLongest();
        names();
        ints();
        signs();
        noTells();
        tells();
        laws();
        sumsAndUnits();
        corners();
        streets();
        young();
        words();
        lighter();
        lawsNotTold();
        draughtAndSeed();
        theFirstFault();
        syntax();
        aTokenTooMany();
        oneMoreOfASort();
        aFifthIf();
        aSeventhBracket();
        formGoesAhead();
        twice();
        toItself();
        noSuchName();
        wrongNumbers();
        aFaultChangesNothing();
        aTextBeginsAnew();
        newObject();
        feed();
        back();
        read();
        place();
    }

    private void fault(String text, int number, int place) {
        BlushLamps x = new BlushLamps();
        String shown = text.length() > 90 ? text.substring(0, 90) + ".." : text;
        due("read() of '" + shown + "'", Check.read(x, text), number);
        due("place() of '" + shown + "'", x.place(), place);
    }

    private void fine(String text) {
        fault(text, 0, NONE);
    }

    private void aFullText() {
        terms("A TEXT has 2,000 bytes at most.");
        BlushLamps x = town(" ".repeat(1991) + "corner a;");
        due("count(0) by the last of 2,000 bytes", x.count(0), 1);
        fault(" ".repeat(1992) + "corner a", SYNTAX, 2000);
        fault(" ".repeat(1999) + "!", SYNTAX, 1999);
        due("the 2,001st byte", fedWith2000().feed(0, 0, 0, 0, 0), NONE);
    }

    private static BlushLamps fedWith2000() {
        BlushLamps x = new BlushLamps();
        Check.feed(x, " ".repeat(2000));
        return x;
    }

    private static boolean isLetter(int b) {
        return b >= 'a' && b <= 'z';
    }

    private static boolean isDigit(int b) {
        return b >= '0' && b <= '9';
    }

    private void blanks() {
        terms("with blanks (9, 10, 13, 32) between or not");
        for (int b = 0; b < 256; b++) {
            String between = "corner" + (char) b + "a;";
            if (BLANKS.contains(b)) {
                fine(between);
                fine((char) b + "corner a" + (char) b + ";" + (char) b);
            } else {
                fault(between, SYNTAX, isLetter(b) ? 0 : 6);
                fault((char) b + "corner a;", SYNTAX, 0);
            }
        }
        fine("corner a;corner b;street a b7;young p10 0a;word w9;lighter b;draught5;seed6;glows=if 1<2then 3else(4);");
        fine("\tcorner\r\na\t;\n\n corner b ; street\ta\tb\t7 ;\r");
        fault("cor ner a;", SYNTAX, 0);
        fault("seed 1 2;", SYNTAX, 7);
    }

    private void theLongest() {
        terms("TOKENS, the longest that can be,");
        fault("cornera;", SYNTAX, 0);
        fault("corner a;lightera;", SYNTAX, 9);
        fault("glows=ageage;", SYNTAX, 6);
        fault("glows=age5;", SYNTAX, 9);
        fault("glows=5age;", SYNTAX, 7);
        fine("glows=if1<2then3else4;");
        fault("glows=iff<2 then 3 else 4;", SYNTAX, 6);
        fine("corner iffy;corner elsea;corner heats;word seeds 5;");
        due("HEAT by all of the digits", town("word w 99;").word(0, 0), 99);
    }

    private void names() {
        terms("NAMES (letters a .. z, 8 at most, none of the words in quotes)");
        fine("corner a;corner z;");
        fine("corner abcdefgh;");
        fine("corner zzzzzzzz;");
        fault("corner abcdefghi;", SYNTAX, 7);
        fault("corner " + "a".repeat(200) + ";", SYNTAX, 7);
        for (char none : new char[] {'a' - 1, 'z' + 1, 'A', 'Z', '_', '0', 'a' + 128, 'z' + 128}) {
            fault("corner " + none + ";", SYNTAX, 7);
            fault("corner a" + none + ";", SYNTAX, 8);
        }
        fine("corner abcdefgh;corner abcdefgi;corner abcdefg;corner bbcdefgh;");
        for (String quoted : QUOTED) {
            fault("corner " + quoted + ";", SYNTAX, 7);
            fault(TWO + "street " + quoted + " a 1;", SYNTAX, 25);
            fault(TWO + "street a " + quoted + " 1;", SYNTAX, 27);
            fault(TWO + "young " + quoted + " 10 0 a;", SYNTAX, 24);
            fault(TWO + "young p 10 0 " + quoted + ";", SYNTAX, 31);
            fault("word " + quoted + " 1;", SYNTAX, 5);
            fault("lighter " + quoted + ";", SYNTAX, 8);
            fine("corner " + quoted.substring(0, 1) + quoted + ";");
        }
    }

    private void ints() {
        terms("INTS (1 to 4 digits)");
        fine("seed 0;seed 9;seed 9999;seed 0000;");
        fault("seed ;", SYNTAX, 5);
        fault("seed 00000;", SYNTAX, 5);
        fault("seed 10000;", SYNTAX, 5);
        fault("glows=10000;", SYNTAX, 6);
        fault(TWO + "street a b 00001;", SYNTAX, 29);
        fault("seed " + "1".repeat(200) + ";", SYNTAX, 5);
        fault("seed 4294967296;", SYNTAX, 5);
        due("0099", town("word w 0099;").word(0, 0), 99);
        due("9999", town("corner a;young p 10 0 a;word w 1;glows=9999-9942;").tells(0, 0, 0), 57);
    }

    private void signs() {
        terms("SIGNS ; = + - * / < ( ) . A longer one, all else, is no TOKEN.");
        for (int b = 0; b < 256; b++) {
            String between = "glows=1" + (char) b + "1;";
            if (b == '+' || b == '-' || b == '*' || b == '/' || isDigit(b)) {
                fine(between);
            } else {
                fault(between, SYNTAX, b == ';' || BLANKS.contains(b) ? 8 : 7);
            }
        }
        fault("a".repeat(2000), SYNTAX, 0);
        fault("seed 1;" + "corners".repeat(200), SYNTAX, 7);
        fault("seed " + "7".repeat(1995), SYNTAX, 5);
    }

    private void noTells() {
        terms("text: {TELL}.");
        fine("");
        fine("\t\r\n ");
        fine("seed 1;");
        fault(";", SYNTAX, 0);
        fault("seed 1;;", SYNTAX, 7);
    }

    /** Each TELL ended too soon at every TOKEN, and with each TOKEN put in that is of another sort than the one due. */
    private void tells() {
        terms("TELL: 'corner' NAME ';' | 'street' NAME NAME INT ';' | 'young' NAME INT INT NAME ';' | 'word' NAME INT ';' | "
            + "'lighter' NAME ';' | ('glows' | 'wears' | 'cools' | 'leaves') LAW ';' | 'draught' INT ';' | 'seed' INT ';'.");
        String[] forms = {"corner c ;", "street a b 1 ;", "young p 10 0 a ;", "word w 1 ;", "lighter a ;", "draught 1 ;", "seed 1 ;",
            "glows = 1 ;", "wears = 1 ;", "cools = 1 ;", "leaves = 1 ;"};
        String[] others = {"c", "7", "corner", "seed", "if", "then", "else", "heat", ";", "=", "+", "-", "*", "/", "<", "(", ")", "!", "A",
            "abcdefghi", "12345", "\0"};
        for (String form : forms) {
            String[] tokens = form.split(" ");
            fine(TWO + form);
            fine(TWO + form + form.replace("corner c", "corner d").replace("p", "q").replace("word w", "word v"));
            String ahead = TWO;
            for (int i = 0; i < tokens.length; i++) {
                if (i > 0) {
                    fault(ahead, SYNTAX, ahead.length());
                    fault(ahead.trim(), SYNTAX, ahead.trim().length());
                }
                for (String other : others) {
                    if (!isDueThere(tokens[i], other, i)) {
                        fault(ahead + other + " ;", SYNTAX, ahead.length());
                    }
                }
                ahead = ahead + tokens[i] + " ";
            }
        }
    }

    private static boolean isDueThere(String due, String other, int i) {
        if (i == 0) {
            return other.equals("corner") || other.equals("seed");
        }
        boolean isOfLaw = i == 2 && due.equals("1") && (other.equals("heat") || other.equals("if") || other.equals("("));
        boolean isName = other.equals("c") && isLetter(due.charAt(0));
        boolean isInt = other.equals("7") && isDigit(due.charAt(0));
        boolean goesOn = due.equals(";") && (other.equals("+") || other.equals("-") || other.equals("*") || other.equals("/"));
        return other.equals(due) || isOfLaw || isName || isInt || goesOn;
    }

    private void laws() {
        terms("LAW: '=' {'if' E '<' E 'then' E 'else'} E.");
        for (String law : new String[] {"glows", "wears", "cools", "leaves"}) {
            fine(law + "=1;");
            fine(law + "=if 1<2 then 3 else 4;");
            fine(law + "=if 1<2 then 3 else if 4<5 then 6 else 7;");
            String[] tokens = "= if 1 < 2 then 3 else if heat < ( age ) then 3 else 4".split(" ");
            String ahead = law + " ";
            for (String token : tokens) {
                fault(ahead, SYNTAX, ahead.length());
                fault(ahead + "; seed 1;", SYNTAX, ahead.length());
                fault(ahead + "abc ;", SYNTAX, ahead.length());
                fault(ahead + "! ;", SYNTAX, ahead.length());
                ahead = ahead + token + " ";
            }
            fine(ahead + ";");
        }
        fault("glows=if 1<2 then if 3<4 then 5 else 6 else 7;", SYNTAX, 18);
        fault("glows=if 1<2 then 3 else 4 else 5;", SYNTAX, 27);
        fault("glows=if 1<2<3 then 4 else 5;", SYNTAX, 12);
        fault("glows=(if 1<2 then 3 else 4);", SYNTAX, 7);
        fault("glows=1+if 1<2 then 3 else 4;", SYNTAX, 8);
        fault("glows=if 1=2 then 3 else 4;", SYNTAX, 10);
        fault("glows=if 1<2 then 3;", SYNTAX, 19);
    }

    private void sumsAndUnits() {
        terms("E: PART {('+' | '-') PART}. PART: UNIT {('*' | '/') UNIT}. UNIT: INT | VAR | '(' E ')'. "
            + "VAR: 'heat' | 'age' | 'temper' | 'worn' | 'since' | 'hour' | 'glow' | 'which' | 'told'.");
        for (String quoted : QUOTED) {
            boolean isVar = List.of(QUOTED).indexOf(quoted) >= List.of(QUOTED).indexOf("heat");
            if (isVar) {
                fine("glows=" + quoted + ";");
                fine("leaves=1+" + quoted + "*(" + quoted + ");");
            } else {
                fault("glows=1+" + quoted + ";", SYNTAX, 8);
            }
        }
        for (String sign : new String[] {"+", "-", "*", "/"}) {
            fine("glows=1" + sign + "1" + sign + "1;");
            fault("glows=" + sign + "1;", SYNTAX, 6);
            fault("glows=1" + sign + ";", SYNTAX, 8);
            fault("glows=1" + sign + sign + "1;", SYNTAX, 8);
            fault("glows=(1" + sign + ");", SYNTAX, 9);
            fault("glows=(" + sign + "1);", SYNTAX, 7);
        }
        fault("glows=();", SYNTAX, 7);
        fault("glows=(1;", SYNTAX, 8);
        fault("glows=1);", SYNTAX, 7);
        fault("glows=(1)(1);", SYNTAX, 9);
        fault("glows=1(1);", SYNTAX, 7);
        fault("glows=1<2;", SYNTAX, 7);
    }

    private static String named(String ahead, int n, String behind) {
        StringBuilder all = new StringBuilder();
        for (int i = 0; i < n; i++) {
            all.append(ahead).append((char) ('a' + i)).append(behind);
        }
        return all.toString();
    }

    private void corners() {
        terms("CORNERS, 7 at most (a NAME)");
        due("count(0)", town(named("corner ", 7, ";")).count(0), 7);
        fault(named("corner ", 8, ";"), ROOM, 63);
    }

    private void streets() {
        terms("STREETS, 10 at most (two CORNERS, LONG 1 .. 99)");
        BlushLamps x = town(TWO + "street a b 1;street b a 99;" + "street a b 50;".repeat(8));
        due("count(1)", x.count(1), 10);
        due("LONG", x.street(0, 2), 1);
        due("LONG", x.street(1, 2), 99);
        due("LONG of the tenth", x.street(9, 2), 50);
        fault(TWO + "street a b 1;".repeat(11), ROOM, 18 + 130);
        fault(TWO + "street a b 0;", WRONG, 29);
        fault(TWO + "street a b 100;", WRONG, 29);
        fault(TWO + "street a b 9999;", WRONG, 29);
    }

    private void young() {
        terms("YOUNG, 6 at most (a NAME, AGE 10 .. 40, TEMPER 0 .. 9, at which CORNER)");
        BlushLamps x = town("corner y;corner z;young a 10 0 z;young b 40 9 y;" + named("young c", 4, " 20 5 z;"));
        due("count(2)", x.count(2), 6);
        due("AGE", x.young(0, 0), 10);
        due("AGE", x.young(1, 0), 40);
        due("TEMPER", x.young(0, 1), 0);
        due("TEMPER", x.young(1, 1), 9);
        due("CORNER", x.young(0, 2), 1);
        due("CORNER", x.young(1, 2), 0);
        fault("corner z;" + named("young ", 7, " 10 0 z;"), ROOM, 9 + 90);
        fault("corner z;young p 9 0 z;", WRONG, 17);
        fault("corner z;young p 41 0 z;", WRONG, 17);
        fault("corner z;young p 10 10 z;", WRONG, 20);
        fault("corner z;young p 0 0 z;", WRONG, 17);
    }

    private void words() {
        terms("WORDS, 5 at most (a NAME, HEAT 0 .. 99), numbered each from 0 on as they stand.");
        BlushLamps x = town("word a 0;word b 99;" + named("word c", 3, " 7;"));
        due("count(3)", x.count(3), 5);
        due("HEAT", x.word(0, 0), 0);
        due("HEAT", x.word(1, 0), 99);
        due("HEAT of the fifth", x.word(4, 0), 7);
        fault(named("word ", 6, " 9;"), ROOM, 45);
        fault("word w 100;", WRONG, 7);
        BlushLamps mixed = town("word v 5;corner a;young p 11 1 a;word w 6;corner b;young q 12 2 b;street b a 3;corner c;street c b 4;");
        due("the first WORD", mixed.word(0, 0), 5);
        due("the second WORD", mixed.word(1, 0), 6);
        due("the first YOUNG one", mixed.young(0, 0), 11);
        due("the second YOUNG one", mixed.young(1, 0), 12);
        due("where the second is", mixed.young(1, 2), 1);
        due("the first STREET", mixed.street(0, 2), 3);
        due("its first CORNER", mixed.street(0, 0), 1);
        due("its other CORNER", mixed.street(0, 1), 0);
        due("the second STREET's", mixed.street(1, 0), 2);
    }

    private void lighter() {
        terms("LIGHTER: the CORNER where they are at first (the first CORNER; the last one told).");
        due("no CORNERS", town("seed 1;").count(5), NOTHING);
        due("the first CORNER", town("corner a;corner b;corner c;").count(5), 0);
        due("one told", town("corner a;corner b;corner c;lighter b;").count(5), 1);
        due("told ahead of a CORNER", town("corner a;corner b;lighter b;corner c;").count(5), 1);
        due("the last one told", town("corner a;corner b;corner c;lighter b;lighter c;lighter a;").count(5), 0);
        BlushLamps x = town("corner a;corner b;lighter b;");
        due("read()", Check.read(x, "corner a;corner b;"), 0);
        due("not told in the next text", x.count(5), 0);
    }

    private void lawsNotTold() {
        terms("LAWS: GLOWS (heat), WEARS (1), COOLS (0), LEAVES (0), if not told; the last one.");
        String people = "corner a;young p 10 0 a;word w 37;";
        BlushLamps x = town(people);
        ofLaws(x, 37, 1, 0, 0);
        ofLaws(town(people + "glows=2;"), 2, 1, 0, 0);
        ofLaws(town(people + "wears=2;"), 37, 2, 0, 0);
        ofLaws(town(people + "cools=2;"), 37, 1, 2, 0);
        ofLaws(town(people + "leaves=2;"), 37, 1, 0, 1);
        BlushLamps y = town(people + "glows=5;wears=5;cools=5;leaves=5;glows=6;wears=7;cools=8;leaves=0-1;");
        ofLaws(y, 6, 7, 8, 0);
        ofLaws(town("leaves=0-1;leaves=1;glows=if 1<2 then 5 else 6;glows=7;" + people), 7, 1, 0, 1);
        due("read()", Check.read(y, people), 0);
        ofLaws(y, 37, 1, 0, 0);
    }

    private void ofLaws(BlushLamps x, int glows, int wears, int cools, int leaves) {
        due("GLOWS", x.tells(0, 0, 0), glows);
        due("WEARS", x.tells(0, 0, 1), wears);
        due("COOLS", x.young(0, 8), cools);
        due("LEAVES", x.young(0, 9), leaves);
    }

    private void draughtAndSeed() {
        terms("DRAUGHT: in how many of 100 hours 0 .. 100 (0), SEED 0 .. 9999 (0): the last one.");
        int[] times = new int[6];
        BlushLamps none = town("corner a;");
        BlushLamps zero = town("corner a;draught 0;");
        BlushLamps all = town("corner a;draught 100;");
        BlushLamps half = town("corner a;draught 50;");
        BlushLamps halfOf0 = town("corner a;draught 7;draught 50;seed 9;seed 0;");
        BlushLamps halfOf9999 = town("corner a;draught 50;seed 9999;");
        for (int h = 0; h < 100; h++) {
            BlushLamps[] each = {none, zero, all, half, halfOf0, halfOf9999};
            for (int i = 0; i < each.length; i++) {
                times[i] += each[i].count(12);
                each[i].hours(1);
            }
            due("half of SEED 0", half.count(12), halfOf0.count(12));
            due("half of SEED 0, reckoned", half.count(12), Lots.isLess(100, 0, 4 * (h + 1), 50) ? 1 : 0);
            due("half of SEED 9999, reckoned", halfOf9999.count(12), Lots.isLess(100, 9999, 4 * (h + 1), 50) ? 1 : 0);
        }
        due("DRAUGHTS not told", times[0], 0);
        due("DRAUGHTS of 0", times[1], 0);
        due("DRAUGHTS of 100", times[2], 100);
        due("SEED told and not", times[3], times[4]);
        fine("draught 0;draught 100;seed 0;seed 9999;");
        fault("draught 101;", WRONG, 8);
        fault("draught 9999;", WRONG, 8);
        fault("draught 101;draught 1;", WRONG, 8);
    }

    private void theFirstFault() {
        terms("FAULTS of a text, the first by its place (a byte; the text's end: its length), of one place the least:");
        fault("corner", SYNTAX, 6);
        fault("corner a \n ", SYNTAX, 11);
        fault("corner a;x;x;", SYNTAX, 9);
        fault("glows=(((((((1;!", ROOM, 12);
        fault("glows=!(((((((1;", SYNTAX, 6);
        fault("word w 100;corner a;corner a;lighter x;", WRONG, 7);
        fault("corner a;corner a;word w 100;lighter x;", TWICE, 16);
        fault("lighter x;corner a;corner a;word w 100;", NAME, 8);
        // the 401st TOKEN, with which no text goes on
        fault("seed 1;".repeat(133) + "seed seed", SYNTAX, 931 + 5);
        fault("seed 1;".repeat(132) + "word w 9;\u00e9", SYNTAX, 933);
    }

    private void syntax() {
        terms("1 SYNTAX: a TOKEN, or what is none, with which no text goes on.");
        fault("corner a;a", SYNTAX, 9);
        fault("corner a;1", SYNTAX, 9);
        fault("corner a;\u00ff", SYNTAX, 9);
        fault("corner a;\0", SYNTAX, 9);
        fault("corner a;abcdefghi", SYNTAX, 9);
        fault("corner a;heat", SYNTAX, 9);
        fault("corner a;then", SYNTAX, 9);
        fault("corner a;(", SYNTAX, 9);
    }

    private void aTokenTooMany() {
        terms("2 ROOM: a 401st TOKEN;");
        String of399 = "seed 1;".repeat(133);
        String of400 = "seed 1;".repeat(132) + "word w 9;";
        due("400 TOKENS", town(of400).count(3), 1);
        due("400 TOKENS and blanks", town(of400 + " ".repeat(500)).count(3), 1);
        fault(of400 + "seed 1;", ROOM, 933);
        fault(of400 + "  seed", ROOM, 935);
        fault(of400 + "seed !", ROOM, 933);
        fault(of400 + "!", SYNTAX, 933);
        fault(of400 + "w", SYNTAX, 933);
        fault(of400 + ";", SYNTAX, 933);
        fault(of399 + "seed 1;", ROOM, 936);
        fault(of399 + "seed", SYNTAX, 935);
        fault(of399 + "seed x", SYNTAX, 936);
        // 'glows', '=', 199 of 1 and 198 of + are 399 TOKENS, the ; is the 400th
        String sum = "glows=" + "1+".repeat(198) + "1";
        fine(sum + ";");
        fault(sum + "+1;", ROOM, sum.length() + 1);
        fault(sum + "+;", SYNTAX, sum.length() + 1);
        fault(sum + ";;", SYNTAX, sum.length() + 1);
        fault("glows=" + "1*".repeat(900), ROOM, 6 + 398);
    }

    private void oneMoreOfASort() {
        terms("one more of a sort than told (at its first TOKEN);");
        String seven = named("corner ", 7, ";");
        String six = named("young p", 6, " 10 0 a;");
        String five = named("word w", 5, " 9;");
        String ten = "street a b 1;".repeat(10);
        String all = seven + six + five + ten;
        fine(all);
        fault(all + " corner x;", ROOM, all.length() + 1);
        fault(all + " young x 10 0 a;", ROOM, all.length() + 1);
        fault(all + " word x 9;", ROOM, all.length() + 1);
        fault(all + " street a b 1;", ROOM, all.length() + 1);
        fault(all + "street", ROOM, all.length());
        fault(all + "street !", ROOM, all.length());
        fault(all + "word a 100;", ROOM, all.length());
        fine(all + "lighter b;".repeat(9) + "seed 1;".repeat(9) + "draught 1;".repeat(9) + "wears=1;".repeat(9));
    }

    private void aFifthIf() {
        terms("a 5th if of a LAW (at it);");
        String one = "if 1<2 then 3 else ";
        fine("glows=" + one.repeat(4) + "5;");
        fine("glows=" + one.repeat(4) + "5;" + "glows=" + one.repeat(4) + "5;leaves=" + one.repeat(4) + "5;");
        fault("glows=" + one.repeat(5) + "5;", ROOM, 6 + 76);
        fault("seed 1;cools=" + one.repeat(4) + "if", ROOM, 13 + 76);
        fault("cools=" + one.repeat(4) + "if;", ROOM, 6 + 76);
        fault("cools=" + one.repeat(4) + ";", SYNTAX, 6 + 76);
    }

    private void aSeventhBracket() {
        terms("a 7th ( within one another (at it).");
        fine("glows=((((((1))))));");
        fine("glows=((((((1))))))*((((((1))))))-((((((1))))));");
        fine("glows=" + "(1)+".repeat(9) + "1;");
        fine("glows=if ((((((1))))))<((((((1)))))) then ((((((1)))))) else ((((((1))))));");
        fault("glows=(((((((1)))))));", ROOM, 12);
        fault("glows=(((((((", ROOM, 12);
        fault("glows=(((((((!", ROOM, 12);
        fault("glows=((((((1+1)+1)+1)+1)+1)+((((((1", ROOM, 34);
        fault("glows=((((((1)+(1))*(1))-(1))/(1))+((((((2)))))));", ROOM, 40);
        fault("glows=if (((((((", ROOM, 15);
        fault("glows=if 1<(((((((", ROOM, 17);
        fault("glows=if 1<2 then 1+(((((((", ROOM, 26);
        fault("glows=((((((!", SYNTAX, 12);
    }

    private void formGoesAhead() {
        terms("If there is none, likewise:");
        fault("corner a;corner a;!", SYNTAX, 18);
        fault("corner a;corner a;corner", SYNTAX, 24);
        fault("lighter x;!", SYNTAX, 10);
        fault("word w 100;!", SYNTAX, 11);
        fault("word w 100;glows=(((((((", ROOM, 23);
        fault("lighter x;" + "seed 1;".repeat(133), ROOM, 10 + 132 * 7 + 5);
        fault("corner a;street a a 0;", TWICE, 18);
        fault("corner a;young a 9 10 x;", TWICE, 15);
        fault("corner a;young p 9 10 x;", WRONG, 17);
        fault("corner a;young p 10 10 x;", WRONG, 20);
        fault("corner a;young p 10 9 x;", NAME, 22);
        fault("corner a;street x x 0;", NAME, 16);
        fault("corner a;street a x 0;", NAME, 18);
        fault("word w 100;word w 100;", WRONG, 7);
    }

    private void twice() {
        terms("3 TWICE: a NAME told already (of CORNERS, YOUNG and WORDS together);");
        String[] sorts = {"corner n;", "young n 10 0 z;", "word n 9;"};
        for (String first : sorts) {
            for (String second : sorts) {
                fault("corner z;" + first + second, TWICE, 9 + first.length() + second.indexOf('n', second.indexOf(' ')));
                fine("corner z;" + first + second.replace(" n", " nn"));
            }
        }
        fault("corner aaaaaaaa;corner aaaaaaab;word aaaaaaaa 1;", TWICE, 37);
        String many = named("corner ", 7, ";") + "word h 1;word i 1;word j 1;word k 1;word l 1;" + named("young p", 5, " 10 0 a;");
        fine(many + "young pf 10 0 a;");
        for (String told : new String[] {"a", "g", "h", "l", "pa", "pe"}) {
            fault(many + "young " + told + " 10 0 a;", TWICE, many.length() + 6);
        }
    }

    private void toItself() {
        terms("(at the second NAME) a STREET from a CORNER to itself.");
        fault("corner a;corner b;street b b 1;", TWICE, 27);
        fault("corner a;street a\t\n a 1;", TWICE, 20);
        fine("corner a;corner b;street b a 1;street a b 1;street a b 1;");
    }

    private void noSuchName() {
        terms("4 NAME: (at it) no such CORNER told ahead (a NAME told more than once is that of the first one of the sort).");
        fault("lighter a;", NAME, 8);
        fault("lighter a;corner a;", NAME, 8);
        fault("corner a;street a b 1;corner b;", NAME, 18);
        fault("corner b;street a b 1;corner a;", NAME, 16);
        fault("corner a;young p 10 0 b;corner b;", NAME, 22);
        fault("corner a;young p 10 0 p;", NAME, 22);
        fault("corner a;word w 1;young p 10 0 w;", NAME, 31);
        fault("corner a;young p 10 0 a;lighter p;", NAME, 32);
        fault("corner a;corner b;corner a;street a a 1;", TWICE, 25);
        fault("corner ab;lighter a;", NAME, 18);
        fault("corner a;lighter ab;", NAME, 17);
    }

    private void wrongNumbers() {
        terms("5 WRONG (at the INT): a number not as told above.");
        fault(TWO + "street a b  0;", WRONG, 30);
        fault("corner z;young p  9 0 z;", WRONG, 18);
        fault("corner z;young p 10  10 z;", WRONG, 21);
        fault("word w  100;", WRONG, 8);
        fault("draught  101;", WRONG, 9);
        fine("glows=9999*9999;cools=0/0;");
    }

    private static final String TOWN = "corner a;corner b;street a b 9;young p 10 0 a;young q 20 5 b;word w 20;word v 3;lighter b;"
        + "cools=2;leaves=if which<1 then hour-1 else 0;draught 7;seed 3;";

    /** A town in which something of every sort has happened; p is HOME. */
    private static BlushLamps busy() {
        BlushLamps x = town(TOWN);
        x.rouge(0);
        x.hours(1);
        x.say(1, 0);
        x.hold(1);
        x.hours(3);
        x.step(0);
        x.tell(1, 4, true);
        return x;
    }

    private void aFaultChangesNothing() {
        terms("A text with a FAULT changes nothing but the tape;");
        String[] texts = {"corner z;glows=9;draught 100;!", "corner z;glows=(((((((", "corner z;word z 1;", "cools=9;seed 4;lighter y;",
            "corner z;draught 101;"};
        for (int i = 0; i < texts.length; i++) {
            BlushLamps x = busy();
            List<Integer> before = seen(x);
            due("read()", Check.read(x, texts[i]), i + 1);
            List<Integer> after = seen(x);
            // the last one is place()
            same("all", after.subList(0, after.size() - 1), before.subList(0, before.size() - 1));
            due("the tape", x.count(8), 0);
            due("GLOWS", x.tells(1, 0, 0), 19);
            due("words(1, 1)", x.words(1, 1), 3);
            due("undo()", x.undo(), true);
            due("the hour, undone", x.count(4), 4);
            due("restore(1)", x.restore(1), true);
            due("the hour, gone on from", x.count(4), 1);
            due("p, gone on from", x.young(0, 3), 18);
        }
    }

    private void aTextBeginsAnew() {
        terms("else it is in place of the one ahead: hour 0, nobody was told anything, no glow, nothing worn, nobody gone home; "
            + "nothing can be undone, nothing is TOLD, SLOTS hold nothing.");
        BlushLamps x = busy();
        List<Integer> first = seen(town(TOWN));
        due("it is not as at first", seen(x).equals(first), false);
        due("read() of the same text", Check.read(x, TOWN), 0);
        same("all", seen(x), first);
        due("undo()", x.undo(), false);
        due("forget()", x.forget(), 0);
        for (int slot = 0; slot < 3; slot++) {
            due("restore(" + slot + ")", x.restore(slot), false);
        }
        BlushLamps y = busy();
        due("read() of nothing", y.read(), 0);
        same("all of nothing", seen(y), seen(new BlushLamps()));
        due("undo() of nothing", y.undo(), false);
        due("restore(1) of nothing", y.restore(1), false);
        // a third and a fourth text: nothing is left of any of those ahead
        BlushLamps z = busy();
        Check.read(z, "corner c;corner d;corner e;street c d 1;street d e 2;young r 30 1 e;word x 9;glows=7;wears=7;cools=7;leaves=7;draught 90;seed 8;");
        Check.read(z, "corner f;young s 40 9 f;word y 5;");
        same("all of a third text", seen(z), seen(town("corner f;young s 40 9 f;word y 5;")));
        due("GLOWS", z.tells(0, 0, 0), 5);
        due("WEARS", z.tells(0, 0, 1), 1);
        Check.read(z, "");
        same("all of a fourth text", seen(z), seen(new BlushLamps()));
        lawsAndSeedsOfManyTexts();
    }

    private void lawsAndSeedsOfManyTexts() {
        BlushLamps x = town("seed 9;");
        String people = "corner a;young p 10 0 a;word w 37;";
        String sum = "1+".repeat(120) + "1";
        for (int i = 0; i < 5; i++) {
            due("read()", Check.read(x, people + "draught 50;seed " + (7 + i) + ";glows=" + sum + "-" + (100 - i) + ";wears=2;"), 0);
            due("GLOWS, text " + i, x.tells(0, 0, 0), 21 + i);
            due("a DRAUGHT, text " + i, x.count(12), Lots.isLess(100, 7 + i, 0, 50) ? 1 : 0);
            due("read() of a FAULT", Check.read(x, "glows=5;leaves=1;seed 4;!"), SYNTAX);
            due("GLOWS still", x.tells(0, 0, 0), 21 + i);
        }
        // LOT 100 of SEED 0 and 0 is 46
        for (int i = 0; i < 3; i++) {
            due("read()", Check.read(x, people + "draught " + (46 + i) + ";"), 0);
            due("a DRAUGHT, no SEED told", x.count(12), i == 0 ? 0 : 1);
            ofLaws(x, 37, 1, 0, 0);
        }
    }

    private void newObject() {
        promise(1, "No CORNERS, no YOUNG, no WORDS.");
        BlushLamps x = new BlushLamps();
        for (int what = 0; what <= 20; what++) {
            due("count(" + what + ")", x.count(what), what == 5 ? NOTHING : 0);
        }
        due("corner", x.corner(0, 0), NONE);
        due("street", x.street(0, 0), NONE);
        due("young", x.young(0, 0), NONE);
        due("word", x.word(0, 0), NONE);
        due("tells", x.tells(0, 0, 0), NONE);
        due("place", x.place(), NONE);
        due("back(1)", x.back(1), NONE);
        due("undo", x.undo(), false);
        due("restore", x.restore(0), false);
    }

    private void feed() {
        promise(2, "Twenty bytes, the highest of a first, come behind the tape: how many it has.");
        BlushLamps x = new BlushLamps();
        due("feed", x.feed(0x636f726e, 0x65722061, 0x3b636f72, 0x6e657220, 0x623b7374), 20);
        due("feed", x.feed(0x72656574, 0x20612062, 0x20373b20, 0x20202020, 0x20202021), 40);
        due("read()", x.read(), SYNTAX);
        due("place() of the lowest byte of e", x.place(), 39);
        due("feed of highest bytes above 127", x.feed(0xff202020, 0, 0, 0, 0), 20);
        due("read()", x.read(), SYNTAX);
        due("place() of the highest byte of a", x.place(), 0);
        int[] fives = {0x20202020, 0x20202020, 0x20202020, 0x20202020, 0x20202020};
        for (int i = 0; i < 20; i++) {
            int[] f = fives.clone();
            f[i / 4] ^= (0x20 ^ 0xe1) << 24 - 8 * (i % 4);
            due("feed", x.feed(f[0], f[1], f[2], f[3], f[4]), 20);
            due("read()", x.read(), SYNTAX);
            due("place() of byte " + i, x.place(), i);
        }
        promise(2, "NONE, and nothing comes, if it would have more than 2,000.");
        for (int length = 1979; length <= 2000; length++) {
            BlushLamps y = new BlushLamps();
            Check.feed(y, " ".repeat(length));
            boolean isRoom = length <= 1980;
            due("feed to " + length, y.feed(0x20202020, 0x20202020, 0x20202020, 0x20202020, 0x20202021), isRoom ? length + 20 : NONE);
            due("count(8)", y.count(8), isRoom ? length + 20 : length);
            due("read()", y.read(), isRoom ? SYNTAX : 0);
        }
    }

    private void back() {
        promise(3, "The last n bytes of the tape go: how many it has.");
        BlushLamps x = new BlushLamps();
        Check.feed(x, "seed 1;corner a;!!");
        due("back(0)", x.back(0), 18);
        due("back(1)", x.back(1), 17);
        due("back(1)", x.back(1), 16);
        due("read()", x.read(), 0);
        due("count(0)", x.count(0), 1);
        Check.feed(x, "!!!!!");
        due("back of all", x.back(5), 0);
        due("back(0) of none", x.back(0), 0);
        due("feed behind", x.feed(0x20202020, 0x20202020, 0x20202020, 0x20202020, 0x20202020), 20);
        due("read()", x.read(), 0);
        promise(3, "NONE, and nothing goes, if it has not so many, or n is below 0.");
        BlushLamps y = new BlushLamps();
        due("back(1) of none", y.back(1), NONE);
        Check.feed(y, "corner a;");
        for (int n : new int[] {10, 11, 2000, MAX, -1, -9, MIN}) {
            due("back(" + n + ")", y.back(n), NONE);
            due("count(8)", y.count(8), 9);
        }
        due("back(9)", y.back(9), 0);
        BlushLamps full = fedWith2000();
        due("back(2001)", full.back(2001), NONE);
        due("back(2000)", full.back(2000), 0);
    }

    private void read() {
        promise(4, "The tape, which is empty then, is read: 0, or the number of its FAULT.");
        BlushLamps x = new BlushLamps();
        due("read() of an empty tape", x.read(), 0);
        String[] texts = {"corner a;", "!", "glows=(((((((", "corner a;corner a;", "lighter a;", "word w 100;"};
        for (int i = 0; i < texts.length; i++) {
            due("read() of " + texts[i], Check.read(x, texts[i]), i);
            due("count(8)", x.count(8), 0);
            due("back(1)", x.back(1), NONE);
        }
        due("count(0), of the last one without", x.count(0), 1);
        due("read() of the empty tape", x.read(), 0);
        due("count(0)", x.count(0), 0);
    }

    private void place() {
        promise(5, "The byte of the latest read()'s FAULT; NONE without.");
        BlushLamps x = new BlushLamps();
        due("no read()", x.place(), NONE);
        Check.read(x, "corner a;!");
        due("a FAULT", x.place(), 9);
        due("asked again", x.place(), 9);
        Check.feed(x, "   !");
        due("fed, not read", x.place(), 9);
        x.read();
        due("the latest", x.place(), 3);
        Check.read(x, "corner a;");
        due("without", x.place(), NONE);
        Check.read(x, "!");
        due("at the first byte", x.place(), 0);
        x.read();
        due("without, an empty tape", x.place(), NONE);
    }
}
