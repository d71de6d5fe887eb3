import java.util.List;

/** The edges of section IV of the Terms and of promises 35 to 41: what is TOLD, what is held, and the counts. */
final class EdgesOfTold extends Edges {
    /** p is HOME behind the first hour; WORDS of 10, 20 and 30, to which q adds 5 and r 9. */
    private static final String TOWN = "corner a;corner b;street a b 30;young p 10 0 a;young q 20 5 a;young r 30 9 b;"
        + "word u 10;word v 20;word w 30;glows=heat+temper;leaves=1-which;";

    EdgesOfTold(Check check, Sentences sentences) {
        super(check, sentences);
    }

    @Override
    void look() {
        toldGlowsBy();
        toldAtMost();
        tell();
        forget();
        words();
        lookAtWorst();
        lookAsked();
        hold();
        restore();
        count();
    }

    private static BlushLamps later() {
        BlushLamps x = town(TOWN);
        x.hours(1);
        return x;
    }

    private static BlushLamps allHome() {
        BlushLamps x = town(TOWN.replace("leaves=1-which", "leaves=1"));
        x.hours(1);
        return x;
    }

    private void toldGlowsBy() {
        terms("TOLD: that a YOUNG one not HOME, one WORD unknown being told to them now, glows by v (0 .. 999) or more then (gone HOME since: by 0), or does not;");
        int[] vs = {0, 1, 24, 25, 26, 35, 36, 999};
        int[] yes = {7, 7, 6, 6, 4, 4, 0, 0};
        for (int i = 0; i < vs.length; i++) {
            BlushLamps x = town(TOWN);
            x.tell(1, vs[i], true);
            due("q glows by " + vs[i], x.words(1, 1), yes[i]);
            BlushLamps y = town(TOWN);
            y.tell(1, vs[i], false);
            due("q does not by " + vs[i], y.words(1, 1), 7 & ~yes[i]);
        }
        BlushLamps now = town(TOWN);
        now.tell(1, 45, true);
        due("as it is now", now.words(1, 1), 0);
        now.rouge(1);
        due("with ROUGE", now.words(1, 1), 6);
        now.undo();
        due("undone", now.words(1, 1), 0);
        BlushLamps home = town(TOWN);
        home.tell(0, 0, true);
        home.tell(0, 1, true);
        due("p, not HOME", home.words(2, 1), 7);
        home.hours(1);
        due("gone HOME since: by 0", home.words(1, 1), 7);
        due("gone HOME since, not by 1", home.words(2, 1), 0);
        BlushLamps not = town(TOWN);
        not.tell(0, 1, false);
        due("p, not HOME", not.words(1, 1), 0);
        not.hours(1);
        due("gone HOME since, not by 1", not.words(1, 1), 7);
        BlushLamps most = town(TOWN);
        rouge(most, 1, 49);
        most.tell(1, 999, true);
        due("999 at most", most.words(1, 1), 6);
        most.rouge(1);
        due("999 at most", most.words(1, 1), 7);
    }

    private void toldAtMost() {
        terms("20 at most, numbered from 0 on; KNOWN by k: the first k.");
        BlushLamps x = town(TOWN);
        for (int i = 0; i < 20; i++) {
            due("the number", x.tell(1, i == 19 ? 35 : i, true), i);
        }
        due("a 21st", x.tell(1, 0, true), NONE);
        due("the first 0", x.words(0, 1), 7);
        due("the first 16", x.words(16, 1), 7);
        due("the first 17", x.words(17, 1), 6);
        due("the first 19", x.words(19, 1), 6);
        due("all 20", x.words(20, 1), 4);
        due("21", x.words(21, 1), NONE);
    }

    private void tell() {
        promise(35, "It is TOLD: its number; NONE, and nothing happens: 20 are there, HOME, no such one, no such v.");
        BlushLamps x = later();
        List<Integer> before = seen(x);
        due("HOME", x.tell(0, 5, true), NONE);
        for (int y : outside(3)) {
            due("tell(" + y + ", 5)", x.tell(y, 5, true), NONE);
        }
        for (int v : outside(1000)) {
            due("tell(1, " + v + ")", x.tell(1, v, false), NONE);
        }
        same("all", seen(x), before);
        due("the least v", x.tell(1, 0, true), 0);
        due("the greatest v", x.tell(2, 999, false), 1);
        for (int i = 2; i < 20; i++) {
            x.tell(1, 5, true);
        }
        due("20 are there", x.tell(1, 5, true), NONE);
        due("count(10)", x.count(10), 20);
        due("no thing done", x.count(9), 1);
        x.forget();
        due("none are there", x.tell(1, 5, true), 0);
        due("none there", new BlushLamps().tell(0, 5, true), NONE);
        due("no WORDS", town("corner a;young p 10 0 a;").tell(0, 5, true), 0);
    }

    private void forget() {
        promise(36, "All that was TOLD is forgotten: how many there were.");
        BlushLamps x = town(TOWN);
        due("none", x.forget(), 0);
        for (int i = 0; i < 20; i++) {
            x.tell(1, 999, true);
        }
        due("none fits", x.words(20, 0), 0);
        due("20", x.forget(), 20);
        due("again", x.forget(), 0);
        due("count(10)", x.count(10), 0);
        due("KNOWN by 1", x.words(1, 0), NONE);
        x.tell(2, 29, true);
        due("told anew", x.words(1, 1), 6);
        due("one", x.forget(), 1);
    }

    private void words() {
        terms("WORDS THAT FIT: of which all that is KNOWN is so: how many; which (bits).");
        BlushLamps x = town(TOWN);
        // q: 15, 25, 35, r: 19, 29, 39
        x.tell(1, 25, true);
        x.tell(2, 39, false);
        x.tell(1, 25, false);
        int[] fit = {7, 6, 2, 0};
        for (int k = 0; k <= 3; k++) {
            due("words(" + k + ", 0)", x.words(k, 0), Integer.bitCount(fit[k]));
            due("words(" + k + ", 1)", x.words(k, 1), fit[k]);
        }
        promise(37, "WORDS THAT FIT, as KNOWN by k: what 0 how many, 1 which (bits); NONE: no such ones.");
        noSuch("k", 4, k -> x.words(k, 0));
        noSuch("what", 2, what -> x.words(1, what));
        BlushLamps none = new BlushLamps();
        due("no WORDS", none.words(0, 0), 0);
        due("no WORDS", none.words(0, 1), 0);
        due("nothing TOLD, KNOWN by 1", none.words(1, 0), NONE);
        due("no WORDS, no such what", none.words(0, 2), NONE);
        due("five", town("word a 1;word b 1;word c 1;word d 1;word e 1;").words(0, 1), 31);
        due("all HOME, nothing TOLD", allHome().words(0, 1), 7);
    }

    private void lookAtWorst() {
        terms("LOOK by v: the YOUNG one, not HOME, of whom, once it is told so, fewest are left, at worst; of alike ones the first.");
        BlushLamps x = town(TOWN);
        // p: 10, 20, 30, q: 15, 25, 35, r: 19, 29, 39
        due("all of all", x.look(0, 0), 0);
        due("p, of alike ones", x.look(0, 20), 0);
        due("q, r, of alike ones", x.look(0, 31), 1);
        due("r alone", x.look(0, 36), 2);
        due("r alone, its last", x.look(0, 39), 2);
        due("none of any", x.look(0, 40), 0);
        due("by 999", x.look(0, 999), 0);
        x.hours(1);
        due("p is HOME", x.look(0, 20), 1);
        due("p is HOME, none of any", x.look(0, 40), 1);
        x.tell(1, 25, true);
        // of v and w
        due("of two, by 30", x.look(1, 30), 1);
        due("of two, by 36", x.look(1, 36), 2);
        // p glows by 20 of one, q of three of the five
        BlushLamps five = town("corner a;young p 10 0 a;young q 10 9 a;word u 40;word v 30;word w 20;word x 10;word y 5;"
            + "glows=if temper<1 then heat/2 else heat;");
        due("three at worst rather than four", five.look(0, 20), 1);
        due("four at worst rather than five", five.look(0, 40), 1);
        due("three and three, of alike ones", five.look(0, 15), 0);
        BlushLamps other = town("corner a;young p 10 0 a;young q 10 9 a;word u 40;word v 30;word w 20;word x 10;word y 5;"
            + "glows=if temper<1 then heat else heat/2;");
        due("all five are left by any", other.look(0, 0), 0);
        due("all five are left by any", other.look(0, 999), 0);
        due("the first, as the next leaves more", other.look(0, 20), 0);
        // of w, x and y alone: p parts them at 20 and at 10, q at 10 and at 5
        other.tell(0, 30, false);
        due("of three, by 10: two by p, two by q", other.look(1, 10), 0);
        due("of three, by 5: three by p, two by q", other.look(1, 5), 1);
        due("of three, by 20: two by p, three by q", other.look(1, 20), 0);
        due("of three, by 30: three by p, three by q", other.look(1, 30), 0);
    }

    private void lookAsked() {
        promise(38, "LOOK by v (0 .. 999), as KNOWN by k; -2: none is left, all are HOME; NONE: no such ones.");
        BlushLamps x = town(TOWN);
        x.tell(1, 25, true);
        x.tell(1, 25, false);
        for (int v : outside(1000)) {
            due("v " + v, x.look(0, v), NONE);
        }
        due("v 0", x.look(0, 0), 0);
        due("v 999", x.look(0, 999), 0);
        for (int k : outside(3)) {
            due("k " + k, x.look(k, 5), NONE);
        }
        due("k 2, none is left", x.look(2, 5), NOTHING);
        due("k 2, none is left, no such v", x.look(2, 1000), NONE);
        due("k 1", x.look(1, 30), 0);
        due("all are HOME", allHome().look(0, 5), NOTHING);
        due("all are HOME, no such k", allHome().look(1, 5), NONE);
        due("all are HOME, no such v", allHome().look(0, -1), NONE);
        due("no WORDS", town("corner a;young p 10 0 a;").look(0, 5), NOTHING);
        due("nobody", town("word w 5;").look(0, 5), NOTHING);
        due("a new object", new BlushLamps().look(0, 0), NOTHING);
        due("a new object, k 1", new BlushLamps().look(1, 0), NONE);
        due("one WORD, one YOUNG one", town("corner a;young p 10 0 a;word w 5;").look(0, 5), 0);
    }

    private void hold() {
        promise(39, "All that goes on (not what is TOLD, nor the tape) is held in a SLOT (0 .. 2): true; false: no such one.");
        BlushLamps x = later();
        List<Integer> before = seen(x);
        for (int slot : outside(3)) {
            due("hold(" + slot + ")", x.hold(slot), false);
        }
        same("all", seen(x), before);
        for (int slot = 0; slot < 3; slot++) {
            due("hold(" + slot + ")", x.hold(slot), true);
            due("count(11)", x.count(11), slot + 1);
        }
        due("hold(0) again", x.hold(0), true);
        due("count(11)", x.count(11), 3);
        due("no thing done", x.count(9), 1);
        x.tell(1, 5, true);
        Check.feed(x, "seed");
        x.restore(0);
        due("what is TOLD is not held", x.count(10), 1);
        due("nor is the tape", x.count(8), 4);
        x.tell(1, 6, true);
        x.hold(1);
        x.forget();
        x.back(4);
        x.restore(1);
        due("what is TOLD is not held", x.count(10), 0);
        due("nor is the tape", x.count(8), 0);
        due("of a new object", new BlushLamps().hold(2), true);
    }

    private void restore() {
        promise(40, "It goes on from what a SLOT holds (that stays there; nothing can be undone then): true;");
        BlushLamps x = town(TOWN);
        x.say(1, 0);
        x.rouge(2);
        x.hold(0);
        List<Integer> held = without9(seen(x));
        x.hours(3);
        x.move(2, 0);
        x.step(0);
        x.hold(2);
        List<Integer> later = without9(seen(x));
        due("restore(0)", x.restore(0), true);
        due("nothing can be undone", x.count(9), 0);
        due("undo()", x.undo(), false);
        List<Integer> again = without9(seen(x));
        // one SLOT more holds something than when it was held
        due("SLOTS", x.count(11), 2);
        same("all", without11(again), without11(held));
        due("restore(2)", x.restore(2), true);
        same("all of the other one", without11(without9(seen(x))), without11(later));
        BlushLamps y = town(TOWN);
        y.rouge(1);
        y.hold(1);
        for (int i = 0; i < 3; i++) {
            y.rouge(1);
            y.hours(5);
            due("it stays there", y.restore(1), true);
            due("glow", y.young(1, 3), 20);
            due("the hour", y.count(4), 0);
        }
        y.move(1, 1);
        y.rouge(1);
        due("two things done since", y.count(9), 2);
        due("undo()", y.undo(), true);
        due("undo()", y.undo(), true);
        due("undo()", y.undo(), false);
        due("glow", y.young(1, 3), 20);
        due("where", y.young(1, 2), 0);
        y.hours(1);
        due("held in place of what was there", y.hold(1), true);
        y.hours(1);
        due("restore(1)", y.restore(1), true);
        due("the hour", y.count(4), 1);
        promise(40, "false, and nothing happens: no such one, nothing is held.");
        BlushLamps z = later();
        z.hold(1);
        z.hours(1);
        List<Integer> before = seen(z);
        due("nothing is held", z.restore(0), false);
        due("nothing is held", z.restore(2), false);
        for (int slot : outside(3)) {
            due("restore(" + slot + ")", z.restore(slot), false);
        }
        same("all", seen(z), before);
        due("undo() still", z.undo(), true);
        due("a new object", new BlushLamps().restore(0), false);
    }

    /** Without the things that can be undone, which are none behind restore(). */
    private static List<Integer> without9(List<Integer> seen) {
        seen.set(9, 0);
        return seen;
    }

    private static List<Integer> without11(List<Integer> seen) {
        seen.set(11, 0);
        return seen;
    }

    private void count() {
        promise(41, "5 the LIGHTER's CORNER (-2: none)");
        due("none", new BlushLamps().count(5), NOTHING);
        due("none", town("word w 1;").count(5), NOTHING);
        due("one", town("corner a;").count(5), 0);
        promise(41, "9 things that can be undone, 10 TOLD ones, 11 SLOTS that hold something, 12: 1 a DRAUGHT in this hour, else 0,");
        BlushLamps x = town("corner a;draught 40;seed 5;");
        for (int h = 0; h < 50; h++) {
            due("a DRAUGHT at " + h, x.count(12), Lots.isLess(100, 5, 4 * h, 40) ? 1 : 0);
            due("things", x.count(9), Math.min(40, h));
            x.hours(1);
        }
        due("a DRAUGHT without CORNERS", town("draught 100;").count(12), 1);
        promise(41, "15 CORNERS with YOUNG ones not HOME (bits)");
        due("at first", town(TOWN).count(15), 3);
        BlushLamps one = later();
        one.move(1, 1);
        due("p, HOME, alone at a", one.count(15), 2);
        due("all HOME", allHome().count(15), 0);
        promise(41, "19 how many are HOME, 20 NEEDS of all STREETS, added.");
        due("HOME", one.count(19), 1);
        due("all HOME", allHome().count(19), 3);
        BlushLamps needs = town("corner a;corner b;corner c;street a b 20;street b c 30;street c a 99;young p 10 0 b;");
        due("NEEDS", needs.count(20), 149);
        needs.rouge(0);
        due("NEEDS, one LIT", needs.count(20), 10 + 99);
        due("the LIT one", needs.count(6), 1);
        due("how many", needs.count(17), 1);
        counts();
        promise(41, "NONE for others.");
        noSuch("what", 21, what -> what == 5 ? 0 : one.count(what));
    }

    private void counts() {
        promise(41, "0 CORNERS, 1 STREETS, 2 YOUNG ones, 3 WORDS, 4 the hour, counted on,");
        StringBuilder text = new StringBuilder();
        for (int i = 0; i < 7; i++) {
            text.append("corner c").append((char) ('a' + i)).append(";");
        }
        for (int i = 0; i < 10; i++) {
            text.append("street ca cb 1;");
        }
        for (int i = 0; i < 6; i++) {
            text.append("young y").append((char) ('a' + i)).append(" 10 0 cg;");
        }
        for (int i = 0; i < 5; i++) {
            text.append("word w").append((char) ('a' + i)).append(" 99;");
        }
        BlushLamps full = town(text + "lighter cg;wears=0;");
        int[] first = {7, 10, 6, 5, 0, 6, 0, 0, 0, 0, 0, 0, 0, 0, 495, 64, 0, 0, 0, 0, 10};
        for (int what = 0; what <= 20; what++) {
            due("count(" + what + "), all that there can be", full.count(what), first[what]);
        }
        promise(41, "13 how all glow, added, 14 HEAT of all WORDS now, added,");
        for (int y = 0; y < 6; y++) {
            for (int i = 0; i < 11; i++) {
                full.say(y, y % 5);
            }
        }
        due("how all glow, by 999 each", full.count(13), 6 * 999);
        due("HEAT", full.count(14), 495);
        promise(41, "16 how often any was told so far, 17 how many STREETS are LIT, 18 who ever put on ROUGE (bits),");
        due("told", full.count(16), 66);
        due("LIT", full.count(17), 0);
        for (int y = 0; y < 6; y++) {
            full.move(y, 1);
            due("ROUGE", full.count(18), (1 << y) - 1);
            full.rouge(y);
        }
        due("all STREETS", full.count(17), 10);
        due("all STREETS", full.count(6), 1023);
        due("things", full.count(9), 40);
        due("ROUGE", full.count(18), 63);
    }
}
