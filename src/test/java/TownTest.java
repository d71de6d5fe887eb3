/** Promises 6 to 16: what is asked of the town, the LAWS, and what is done by hand. */
final class TownTest {
    private static final Check CHECK = new Check("TownTest");
    private static final int NONE = BlushLamps.NONE;
    /** a, b, c, d in a square with a way from a to c, e by itself. */
    static final String SQUARE = "corner a;corner b;corner c;corner d;corner e;street a b 10;street b c 20;street c d 30;"
        + "street d a 40;street a c 25;young p 10 1 a;young q 20 3 b;young r 40 9 c;word w 10;word x 20;word y 30;lighter b;"
        + "glows=heat+temper;wears=2+worn;cools=1+which;leaves=since-29;";

    public static void main(String[] args) {
        ofCorners();
        ofStreets();
        ofYoung();
        ofWords();
        lawsReckon();
        lawsLookAt();
        lawsAreHeld();
        steps();
        says();
        moves();
        rouges();
        hoursGoBy();
        draughts();
        goesHome();
        undoes();
        CHECK.end();
    }

    private static void due(String call, int got, int want) {
        CHECK.due(call, got, want);
    }

    private static void ofCorners() {
        BlushLamps x = Check.town(SQUARE);
        x.rouge(1);
        x.rouge(2);
        x.move(2, 1);
        due("corner(1, 0)", x.corner(1, 0), 40);
        due("corner(1, 1)", x.corner(1, 1), 6);
        due("corner(1, 2)", x.corner(1, 2), 1);
        due("corner(1, 3)", x.corner(1, 3), 3);
        due("corner(0, 0)", x.corner(0, 0), 0);
        due("corner(0, 1)", x.corner(0, 1), 1);
        due("corner(0, 2)", x.corner(0, 2), 0);
        due("corner(0, 3)", x.corner(0, 3), 0b11001);
        due("corner(4, 3)", x.corner(4, 3), 0);
        due("corner(0, 4)", x.corner(0, 4), NONE);
        due("corner(0, -1)", x.corner(0, -1), NONE);
        due("corner(5, 0)", x.corner(5, 0), NONE);
        due("corner(-1, 0)", x.corner(-1, 0), NONE);
        due("count(15)", x.count(15), 3);
        x.hours(31);
        due("corner(1, 0), all HOME", x.corner(1, 0), 0);
        due("corner(1, 1), all HOME", x.corner(1, 1), 0);
        due("count(15), all HOME", x.count(15), 0);
    }

    private static void ofStreets() {
        BlushLamps x = Check.town("corner a;corner b;street b a 40;young p 10 0 a;young q 10 0 b;");
        due("street(0, 0)", x.street(0, 0), 1);
        due("street(0, 1)", x.street(0, 1), 0);
        due("street(0, 2)", x.street(0, 2), 40);
        due("street(0, 3)", x.street(0, 3), 0);
        due("street(0, 4)", x.street(0, 4), 40);
        x.rouge(0);
        due("street(0, 4), one ROUGE", x.street(0, 4), 20);
        x.rouge(1);
        due("street(0, 3), as much as it is LONG", x.street(0, 3), 1);
        due("street(0, 4), as much as it is LONG", x.street(0, 4), 0);
        x.rouge(1);
        due("street(0, 4), more", x.street(0, 4), 0);
        due("street(0, 5)", x.street(0, 5), NONE);
        due("street(0, -1)", x.street(0, -1), NONE);
        due("street(1, 0)", x.street(1, 0), NONE);
        due("street(-1, 0)", x.street(-1, 0), NONE);
    }

    private static void ofYoung() {
        BlushLamps x = Check.town(SQUARE);
        int[] first = {20, 3, 1, 0, 0, 0, 0, 0, 2, 0, NONE};
        for (int what = 0; what < first.length; what++) {
            due("young(1, " + what + ")", x.young(1, what), first[what]);
        }
        x.hours(4);
        due("since, never told", x.young(1, 6), 4);
        x.say(1, 0);
        x.rouge(1);
        x.hours(2);
        int[] later = {20, 3, 1, 29, 0, 1, 2, 1, 2, 0};
        for (int what = 0; what < later.length; what++) {
            due("young(1, " + what + ") later", x.young(1, what), later[what]);
        }
        x.hours(24);
        due("young(0, 9) at hour 30", x.young(0, 9), 1);
        due("young(1, 9), told since", x.young(1, 9), 0);
        x.hours(10);
        int[] home = {20, 3, 1, 0, 1, 1, 36, 1, 0, 0};
        for (int what = 0; what < home.length; what++) {
            due("young(1, " + what + "), HOME", x.young(1, what), home[what]);
        }
        due("young(3, 0)", x.young(3, 0), NONE);
        due("young(-1, 0)", x.young(-1, 0), NONE);
        due("young(0, -1)", x.young(0, -1), NONE);
    }

    private static void ofWords() {
        BlushLamps x = Check.town(SQUARE);
        x.say(1, 2);
        x.say(1, 2);
        due("word(2, 0)", x.word(2, 0), 25);
        due("word(2, 1)", x.word(2, 1), 2);
        due("word(1, 0)", x.word(1, 0), 20);
        due("word(1, 1)", x.word(1, 1), 0);
        due("word(0, 2)", x.word(0, 2), NONE);
        due("word(0, -1)", x.word(0, -1), NONE);
        due("word(3, 0)", x.word(3, 0), NONE);
        due("word(-1, 0)", x.word(-1, 0), NONE);
        due("tells(0, 2, 0)", x.tells(0, 2, 0), 26);
        due("tells(0, 2, 1)", x.tells(0, 2, 1), 4);
        due("tells(0, 2, 2)", x.tells(0, 2, 2), NONE);
        due("tells(0, 2, -1)", x.tells(0, 2, -1), NONE);
        due("tells(3, 0, 0)", x.tells(3, 0, 0), NONE);
        due("tells(0, 3, 0)", x.tells(0, 3, 0), NONE);
        due("tells(-1, -1, 0)", x.tells(-1, -1, 0), NONE);
        due("count(14)", x.count(14), 55);
        due("count(16)", x.count(16), 2);
    }

    /** What GLOWS by this LAW tells of a YOUNG one (18, 7) and a WORD of HEAT 50; it is held to 0 .. 99. */
    private static void law(String law, int want) {
        BlushLamps x = Check.town("corner a;young p 18 7 a;word w 50;glows=" + law + ";");
        due("GLOWS = " + law, x.tells(0, 0, 0), want);
    }

    private static void lawsReckon() {
        law("2+3*4", 14);
        law("(2+3)*4", 20);
        law("20-5-3", 12);
        law("20-(5-3)", 18);
        law("48/6/2", 4);
        law("48/(6/2)", 16);
        law("7/2*2", 6);
        law("2*7/2", 7);
        law("(0-7)/2+10", 7);
        law("7/(0-2)+10", 7);
        law("heat+age+temper", 75);
        law("heat-age*temper/9", 36);
        law("if 1<2 then 3 else 4", 3);
        law("if 2<2 then 3 else 4", 4);
        law("if 3<2 then 3 else 4", 4);
        law("if 0-5<2 then 3 else 4", 3);
        law("if 2<1 then 3 else if 1<2 then 5 else 6", 5);
        law("if 2<1 then 3 else if 2<1 then 5 else 6", 6);
        law("if 1<2 then 3 else if 1<2 then 5 else 6", 3);
        law("if 9<1 then 1 else if 9<2 then 2 else if 9<3 then 3 else if 9<9+1 then 4 else 5", 4);
        law("1/0", 0);
        law("5+1/0", 0);
        law("5+0*(1/(3-3))", 0);
        law("if 1/0<5 then 7 else 8", 0);
        law("if 1<2 then 7 else 1/0", 7);
        law("if 2<1 then 1/0 else 8", 8);
        law("if 1<2 then 7 else if 1/0<1 then 8 else 9", 7);
        law("if 2<1 then 7 else if 1/0<1 then 8 else 9", 0);
        // 9999 * 9999 * 100 is 9998000100, which wraps to 1408065508
        law("9999*9999*100/9999/9999", 14);
        law("if 9999*9999*30<0 then 1 else 2", 1);
        // the least int less one wraps to the greatest, and divided by -1 it stays
        law("if (0-8192*8192*32)-1<0 then 1 else 2", 2);
        law("if (0-8192*8192*32)/(0-1)<0 then 1 else 2", 1);
        law("((((((1+1)*2)+1)*2)+1)*2)", 22);
        law("1+2*(1+2*(1+2*(1+2*(1+2*(1+2*1)))))", 99);
    }

    private static void lawsLookAt() {
        BlushLamps x = Check.town("corner a;young o 10 0 a;young p 18 7 a;word w 50;word v 60;"
            + "glows=worn*16+told*4+which;wears=since;cools=heat*9+worn*9+hour;");
        due("which", x.tells(1, 0, 0), 1);
        x.say(1, 0);
        x.say(0, 0);
        due("worn by all, told of one", x.tells(1, 0, 0), 2 * 16 + 4 + 1);
        due("told any", x.tells(1, 1, 0), 4 + 1);
        x.hours(30);
        due("since, of one told", x.tells(1, 1, 1), 30);
        due("hour of the day; heat, worn 0", x.young(1, 8), 6);
        x.say(1, 1);
        due("since, told now", x.tells(1, 1, 1), 0);
        due("since, of the other one", x.tells(0, 1, 1), 30);
        BlushLamps y = Check.town("corner a;young o 10 0 a;word w 50;glows=glow;");
        y.rouge(0);
        due("glow", y.tells(0, 0, 0), 20);
        due("say by glow", y.say(0, 0), 40);
        due("glow later", y.tells(0, 0, 0), 40);
    }

    private static void lawsAreHeld() {
        BlushLamps x = Check.town("corner a;young o 10 0 a;word w 50;glows=100;wears=0-1;cools=100;");
        due("GLOWS", x.tells(0, 0, 0), 99);
        due("WEARS", x.tells(0, 0, 1), 0);
        due("COOLS", x.young(0, 8), 99);
        BlushLamps y = Check.town("corner a;young o 10 0 a;word w 50;glows=0-1;wears=100;cools=0-1;leaves=0-1;");
        due("GLOWS", y.tells(0, 0, 0), 0);
        due("WEARS", y.tells(0, 0, 1), 99);
        due("COOLS", y.young(0, 8), 0);
        due("LEAVES", y.young(0, 9), 0);
        due("LEAVES of a thousand", Check.town("corner a;young o 10 0 a;leaves=1000;").young(0, 9), 1);
    }

    private static void steps() {
        BlushLamps x = Check.town(SQUARE);
        x.rouge(1);
        due("step(2), not of b", x.step(2), NONE);
        due("step(5)", x.step(5), NONE);
        due("step(-1)", x.step(-1), NONE);
        due("count(4), nothing happened", x.count(4), 0);
        due("count(9), nothing happened", x.count(9), 1);
        due("step(0)", x.step(0), 0);
        due("count(5)", x.count(5), 0);
        due("count(4)", x.count(4), 1);
        due("young(1, 3), an HOUR went by", x.young(1, 3), 18);
        due("step(4)", x.step(4), 2);
        due("step(4) back", x.step(4), 0);
        due("count(4)", x.count(4), 3);
        due("count(9)", x.count(9), 4);
    }

    private static void says() {
        BlushLamps x = Check.town(SQUARE);
        due("say(0, 0), elsewhere", x.say(0, 0), NONE);
        due("say(3, 0)", x.say(3, 0), NONE);
        due("say(1, 3)", x.say(1, 3), NONE);
        due("say(-1, -1)", x.say(-1, -1), NONE);
        due("count(9), nothing happened", x.count(9), 0);
        due("say(1, 2)", x.say(1, 2), 33);
        due("word(2, 0)", x.word(2, 0), 28);
        due("say(1, 2)", x.say(1, 2), 64);
        due("word(2, 0)", x.word(2, 0), 25);
        due("young(1, 5)", x.young(1, 5), 2);
        due("count(9)", x.count(9), 2);
        BlushLamps y = Check.town("corner a;young o 10 0 a;word w 50;glows=99;wears=if worn<1 then told+glow+since+7 else 99;");
        for (int i = 1; i <= 12; i++) {
            due("say(0, 0)", y.say(0, 0), Math.min(999, 99 * i));
            due("HEAT, by how it was ahead", y.word(0, 0), i == 1 ? 43 : 0);
        }
    }

    private static void moves() {
        BlushLamps x = Check.town(SQUARE);
        CHECK.due("move(0, 0), there", x.move(0, 0), false);
        CHECK.due("move(0, 5)", x.move(0, 5), false);
        CHECK.due("move(0, -1)", x.move(0, -1), false);
        CHECK.due("move(3, 0)", x.move(3, 0), false);
        CHECK.due("move(-1, 0)", x.move(-1, 0), false);
        due("count(9), nothing happened", x.count(9), 0);
        CHECK.due("move(0, 4)", x.move(0, 4), true);
        due("young(0, 2)", x.young(0, 2), 4);
        due("count(4), no HOUR went by", x.count(4), 0);
        due("count(9)", x.count(9), 1);
    }

    private static void rouges() {
        BlushLamps x = Check.town(SQUARE);
        CHECK.due("rouge(3)", x.rouge(3), false);
        CHECK.due("rouge(-1)", x.rouge(-1), false);
        due("count(9), nothing happened", x.count(9), 0);
        for (int i = 1; i <= 52; i++) {
            CHECK.due("rouge(2)", x.rouge(2), true);
            due("young(2, 3)", x.young(2, 3), Math.min(999, 20 * i));
        }
        due("count(18)", x.count(18), 4);
        due("count(13)", x.count(13), 999);
        due("count(16), not told", x.count(16), 0);
    }

    private static void hoursGoBy() {
        BlushLamps x = Check.town(SQUARE);
        x.rouge(0);
        x.rouge(2);
        due("hours(0)", x.hours(0), 0);
        due("hours(-1)", x.hours(-1), NONE);
        due("hours(73)", x.hours(73), NONE);
        due("count(9), no thing done", x.count(9), 2);
        due("hours(3)", x.hours(3), 3);
        due("young(0, 3)", x.young(0, 3), 17);
        due("young(2, 3)", x.young(2, 3), 11);
        due("hours(4)", x.hours(4), 7);
        due("young(2, 3), 0 at least", x.young(2, 3), 0);
        due("hours(0)", x.hours(0), 7);
        due("count(9)", x.count(9), 4);
        due("hours(72)", x.hours(72), 79);
        due("count(4)", x.count(4), 79);
        BlushLamps y = Check.town("corner a;young o 10 0 a;cools=if hour<1 then 7 else 0;");
        y.rouge(0);
        y.hours(24);
        due("COOLS by the hour as it began", y.young(0, 3), 13);
        y.hours(1);
        due("and of the day", y.young(0, 3), 6);
    }

    private static void draughts() {
        BlushLamps x = Check.town("corner a;corner b;corner c;street b c 99;young p 10 0 a;young q 10 0 b;young r 10 0 c;"
            + "draught 50;seed 7;");
        for (int i = 0; i < 12; i++) {
            x.rouge(i % 3);
        }
        // LOT 100 of 7 and 4 * the hour: 10 49 75 67 25 32 94 26; LOT 3 of 7 and 4 * the hour + 1: 1 0 2 0 1 1 2 1
        int[] isOne = {1, 1, 0, 0, 1, 1, 0, 1};
        int[] p = {80, 40, 40, 40, 40, 40, 40, 40};
        int[] q = {40, 40, 40, 40, 20, 10, 10, 5};
        for (int h = 0; h < 8; h++) {
            due("count(12) at " + h, x.count(12), isOne[h]);
            x.hours(1);
            due("p behind " + h, x.young(0, 3), p[h]);
            due("q behind " + h, x.young(1, 3), q[h]);
            due("r behind " + h, x.young(2, 3), 80);
        }
        BlushLamps y = Check.town("corner a;young p 10 0 a;draught 100;cools=5;");
        y.rouge(0);
        y.hours(1);
        due("half of what COOLS leaves, rounded down", y.young(0, 3), 7);
        BlushLamps z = Check.town("corner a;corner b;street a b 9;young p 10 0 a;young q 10 0 b;draught 100;");
        z.rouge(0);
        z.rouge(1);
        z.step(0);
        due("a DRAUGHT in the HOUR of a step", z.young(0, 3) + z.young(1, 3), 30);
        due("a DRAUGHT without CORNERS", Check.town("draught 100;").count(12), 1);
        due("no DRAUGHT by 0", Check.town("corner a;draught 0;").count(12), 0);
        // LOT 100 of 0 and 0 is 46
        due("LOT is not less", Check.town("draught 46;").count(12), 0);
        due("LOT is less", Check.town("draught 47;").count(12), 1);
    }

    private static void goesHome() {
        BlushLamps x = Check.town("corner a;corner b;young p 10 0 a;young q 20 0 a;word w 5;cools=15;leaves=glow-age;");
        x.rouge(0);
        x.rouge(1);
        due("LEAVES p", x.young(0, 9), 1);
        due("LEAVES q", x.young(1, 9), 0);
        x.hours(1);
        due("p HOME, as it was told when it began", x.young(0, 4), 1);
        due("p glows no more", x.young(0, 3), 0);
        due("q", x.young(1, 3), 5);
        due("count(7)", x.count(7), 1);
        due("count(19)", x.count(19), 1);
        due("count(13)", x.count(13), 5);
        due("count(18), ever", x.count(18), 3);
        due("say, HOME", x.say(0, 0), NONE);
        CHECK.due("move, HOME", x.move(0, 1), false);
        CHECK.due("rouge, HOME", x.rouge(0), false);
        due("tells of one HOME", x.tells(0, 0, 0), 5);
        due("corner(0, 1)", x.corner(0, 1), 2);
        due("young(0, 2)", x.young(0, 2), 0);
        due("count(9)", x.count(9), 3);
    }

    private static void undoes() {
        BlushLamps x = Check.town(SQUARE);
        CHECK.due("undo() of nothing", x.undo(), false);
        x.say(1, 2);
        x.rouge(0);
        x.move(0, 2);
        x.step(1);
        x.hours(40);
        due("all HOME", x.count(19), 3);
        CHECK.due("undo() hours", x.undo(), true);
        due("count(4)", x.count(4), 1);
        due("count(19)", x.count(19), 0);
        due("young(1, 3)", x.young(1, 3), 31);
        CHECK.due("undo() step", x.undo(), true);
        due("count(4)", x.count(4), 0);
        due("count(5)", x.count(5), 1);
        due("young(0, 2)", x.young(0, 2), 2);
        CHECK.due("undo() move", x.undo(), true);
        due("young(0, 2)", x.young(0, 2), 0);
        CHECK.due("undo() rouge", x.undo(), true);
        due("young(0, 7)", x.young(0, 7), 0);
        due("young(0, 3)", x.young(0, 3), 0);
        CHECK.due("undo() say", x.undo(), true);
        due("young(1, 3)", x.young(1, 3), 0);
        due("young(1, 5)", x.young(1, 5), 0);
        due("word(2, 0)", x.word(2, 0), 30);
        due("word(2, 1)", x.word(2, 1), 0);
        CHECK.due("undo() of nothing", x.undo(), false);
        for (int i = 0; i < 45; i++) {
            x.hours(1);
            due("count(9)", x.count(9), Math.min(40, i + 1));
        }
        for (int i = 44; i >= 5; i--) {
            CHECK.due("undo()", x.undo(), true);
            due("count(4)", x.count(4), i);
        }
        CHECK.due("undo() of the 41st", x.undo(), false);
        due("count(4)", x.count(4), 5);
        due("count(9)", x.count(9), 0);
    }
}
