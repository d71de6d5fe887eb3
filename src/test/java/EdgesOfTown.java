import java.util.List;

/** The edges of section II of the Terms and of promises 6 to 16: LAWS, HOURS, LIGHT, and what is done by hand. */
final class EdgesOfTown extends Edges {
    /** a and b joined, c by itself; p at a with the LIGHTER, q at b, r, who is HOME behind the first hour, at a. */
    private static final String TOWN = "corner a;corner b;corner c;street a b 30;young p 10 0 a;young q 20 5 b;young r 30 9 a;"
        + "word w 20;word v 3;cools=2;leaves=which-1;";

    EdgesOfTown(Check check, Sentences sentences) {
        super(check, sentences);
    }

    @Override
    void look() {
        hourOfTheDay();
        ifs();
        wraps();
        dividedBy0();
        ofOneAndAWord();
        since();
        coolsAndLeaves();
        lawsAreHeld();
        lots();
        toldByHowItWas();
        toldMost();
        byHand();
        cools();
        draughts();
        leaves();
        theNextHour();
        light();
        lit();
        needs();
        rougeMost();
        corner();
        street();
        young();
        word();
        tells();
        step();
        say();
        move();
        rouge();
        hours();
        undo();
    }

    /** The town with p glowing by 20, q by 20, r HOME, an hour gone. */
    private static BlushLamps later() {
        BlushLamps x = town(TOWN);
        x.hours(1);
        x.say(0, 0);
        x.rouge(1);
        return x;
    }

    private void hourOfTheDay() {
        terms("HOURS are counted on; the hour of the day: its rest by 24.");
        BlushLamps x = town("corner a;young p 10 0 a;cools=hour;");
        for (int h = 0; h < 75; h++) {
            due("counted on", x.count(4), h);
            due("of the day at " + h, x.young(0, 8), h % 24);
            x.hours(1);
        }
        x.hours(72);
        due("counted on", x.count(4), 147);
        due("of the day", x.young(0, 8), 3);
    }

    /** What GLOWS by this LAW tells of p (18, 7) and of w (50), at hour 0, not told, with no glow. */
    private void law(String law, int want) {
        due(law, town("corner a;young p 18 7 a;word w 50;glows=" + law + ";").tells(0, 0, 0), want);
    }

    private void ifs() {
        terms("LAWS: the E of the first if that holds (one less than the other), else the last one;");
        law("if 1<2 then 3 else 4", 3);
        law("if 2<2 then 3 else 4", 4);
        law("if 3<2 then 3 else 4", 4);
        law("if 0-1<0 then 3 else 4", 3);
        law("if 0<0-1 then 3 else 4", 4);
        law("if 1<2 then 3 else if 1<2 then 4 else 5", 3);
        law("if 2<2 then 3 else if 1<2 then 4 else 5", 4);
        law("if 9<1 then 1 else if 9<9 then 2 else if 9<10 then 3 else if 9<11 then 4 else 5", 3);
        law("if 9<1 then 1 else if 9<9 then 2 else if 9<3 then 3 else if 9<10 then 4 else 5", 4);
        law("if 9<1 then 1 else if 9<9 then 2 else if 9<3 then 3 else if 9<4 then 4 else 5", 5);
        // the least and the greatest, whose difference wraps
        law("if 0-8192*8192*32<8192*8192*32-1 then 3 else 4", 3);
        law("if 8192*8192*32-1<8192*8192*32 then 3 else 4", 4);
    }

    private void wraps() {
        terms("ints of 32 bits that wrap, / rounded towards 0;");
        String least = "8192*8192*32";
        String most = "(8192*8192*32-1)";
        law("if " + least + "<0 then 1 else 2", 1);
        law("if 0<" + most + " then 1 else 2", 1);
        law("if " + most + "+1<0 then 1 else 2", 1);
        law("if 0<" + least + "-1 then 1 else 2", 1);
        law("if " + most + "*2<0-1 then 1 else if 0-3<" + most + "*2 then 2 else 3", 1);
        law("if 0-" + least + "<0 then 1 else 2", 1);
        law(least + "/(0-1)", 0);
        law("if " + least + "/(0-1)<0 then 1 else 2", 1);
        law(least + "*2+5", 5);
        // 9999 * 9999 * 22 is 2199560022, which wraps to -2095407274
        law("9999*9999*22/9999/9999+30", 10);
        law("7/1", 7);
        law("7/(0-1)+10", 3);
        law("7/2", 3);
        law("(0-7)/2+10", 7);
        law("7/(0-2)+10", 7);
        law("(0-7)/(0-2)", 3);
        law("(0-1)/2+10", 10);
        law("1/2", 0);
    }

    private void dividedBy0() {
        terms("a LAW in which something that is looked at is divided by 0 is 0.");
        law("5/0", 0);
        law("0/0", 0);
        law("7+5/0", 0);
        law("7+0*(5/(2-2))", 0);
        law("5/hour+7", 0);
        law("if 5/0<9 then 7 else 8", 0);
        law("if 9<5/0 then 7 else 8", 0);
        law("if 1<2 then 7/0 else 8", 0);
        law("if 1<2 then 7 else 8/0", 7);
        law("if 2<1 then 7/0 else 8", 8);
        law("if 1<2 then 7 else if 1/0<1 then 8 else 9", 7);
        law("if 2<1 then 7 else if 1/0<1 then 8 else 9", 0);
        law("if 2<1 then 7 else if 2<1 then 8/0 else 9", 9);
        BlushLamps x = town("corner a;young p 10 0 a;word w 50;glows=1/0+9;wears=9+1/0;cools=9-1/0;leaves=9+1/0;");
        due("GLOWS", x.tells(0, 0, 0), 0);
        due("WEARS", x.tells(0, 0, 1), 0);
        due("COOLS", x.young(0, 8), 0);
        due("LEAVES", x.young(0, 9), 0);
        x.rouge(0);
        x.hours(1);
        due("an HOUR of it", x.young(0, 3), 20);
        due("say() of it", x.say(0, 0), 20);
        due("HEAT", x.word(0, 0), 50);
    }

    private void ofOneAndAWord() {
        terms("Of a YOUNG one and a WORD: heat: its HEAT; age, temper; worn: how often it was told so far, to any;");
        BlushLamps x = town("corner a;young p 10 0 a;young q 40 9 a;word w 50;word v 60;glows=worn;wears=heat/10;");
        due("worn, never", x.tells(0, 0, 0), 0);
        x.say(0, 0);
        due("worn, to this one", x.tells(0, 0, 0), 1);
        due("worn, to any", x.tells(1, 0, 0), 1);
        due("worn, another WORD", x.tells(0, 1, 0), 0);
        x.say(1, 0);
        due("worn, to any", x.tells(0, 0, 0), 2);
        due("heat is HEAT now", x.tells(0, 0, 1), 4);
        terms("hour: of the day; glow: how much they glow; which: the YOUNG one's number; told: how often they were told any.");
        BlushLamps y = town("corner a;young p 10 0 a;young q 40 9 a;word w 50;word v 60;glows=told*20+which;wears=glow;");
        due("which, told, never", y.tells(1, 0, 0), 1);
        y.say(1, 0);
        due("told", y.tells(1, 0, 0), 21);
        due("told any", y.tells(1, 1, 0), 21);
        due("told, another one", y.tells(0, 0, 0), 0);
        due("glow", y.tells(1, 0, 1), 1);
        y.rouge(1);
        due("glow, with ROUGE", y.tells(1, 0, 1), 21);
        due("told, not by ROUGE", y.tells(1, 0, 0), 21);
    }

    private void since() {
        terms("since: how many HOURS ago that YOUNG one was told one (never: the hour);");
        BlushLamps x = town("corner a;young p 10 0 a;young q 10 0 a;word w 50;glows=since;");
        due("never, at 0", x.tells(0, 0, 0), 0);
        for (int h = 1; h <= 30; h++) {
            x.hours(1);
            due("never, at " + h, x.tells(0, 0, 0), h);
            due("never, at " + h, x.young(0, 6), h);
        }
        x.say(0, 0);
        due("now", x.young(0, 6), 0);
        due("the other one", x.young(1, 6), 30);
        x.hours(1);
        due("an HOUR ago", x.young(0, 6), 1);
        due("an HOUR ago", x.tells(0, 0, 0), 1);
        x.hours(72);
        due("since", x.young(0, 6), 73);
        due("never", x.young(1, 6), 103);
        x.say(0, 0);
        due("told again", x.young(0, 6), 0);
        BlushLamps y = town("corner a;young p 10 0 a;word w 50;");
        y.say(0, 0);
        y.hours(5);
        due("told at hour 0", y.young(0, 6), 5);
    }

    private void coolsAndLeaves() {
        terms("COOLS, LEAVES (heat, worn 0): how much less they glow, whether they go home (more than 0).");
        BlushLamps x = town("corner a;young p 10 0 a;word w 50;cools=7+heat+worn;leaves=heat+worn;");
        x.say(0, 0);
        x.say(0, 0);
        due("COOLS", x.young(0, 8), 7);
        due("LEAVES", x.young(0, 9), 0);
        x.hours(1);
        due("glow", x.young(0, 3), 50 + 49 - 7);
        int[] tells = {-9999, -1, 0, 1, 2, 9999};
        for (int tell : tells) {
            BlushLamps y = town("corner a;young p 10 0 a;leaves=0-" + Math.max(0, -tell) + "+" + Math.max(0, tell) + ";");
            due("LEAVES " + tell, y.young(0, 9), tell > 0 ? 1 : 0);
            y.hours(1);
            due("HOME " + tell, y.young(0, 4), tell > 0 ? 1 : 0);
        }
    }

    private void lawsAreHeld() {
        terms("GLOWS, WEARS, COOLS, held to 0 .. 99.");
        int[] tells = {-9999, -1, 0, 1, 98, 99, 100, 9999};
        for (int tell : tells) {
            String law = "=0-" + Math.max(0, -tell) + "+" + Math.max(0, tell) + ";";
            int want = Math.max(0, Math.min(99, tell));
            BlushLamps x = town("corner a;young p 10 0 a;word w 99;glows" + law + "wears" + law + "cools" + law);
            due("GLOWS " + tell, x.tells(0, 0, 0), want);
            due("WEARS " + tell, x.tells(0, 0, 1), want);
            due("COOLS " + tell, x.young(0, 8), want);
            due("say() " + tell, x.say(0, 0), want);
            due("HEAT " + tell, x.word(0, 0), 99 - want);
            BlushLamps y = town("corner a;young p 10 0 a;cools" + law);
            rouge(y, 0, 10);
            y.hours(1);
            due("an HOUR " + tell, y.young(0, 3), 200 - want);
        }
    }

    private void lots() {
        terms("LOT n of a SEED and a which: h is the SEED; for each of 175, which: h becomes (h and it, each bit of which is in just one) "
            + "times 1103515245 and 12345 more, then h and h moved 15 bits down (zeros come in), likewise; "
            + "the rest of h, moved 1 bit down likewise, by n (32 bits that wrap).");
        for (int seed : new int[] {0, 1, 175, 174, 4095, 5000, 9998, 9999}) {
            int lot = Lots.lot(100, seed, 0);
            due("not less, SEED " + seed, town("draught " + lot + ";seed " + seed + ";").count(12), 0);
            due("less, SEED " + seed, town("draught " + (lot + 1) + ";seed " + seed + ";").count(12), 1);
            BlushLamps x = town("corner a;draught 37;seed " + seed + ";");
            for (int i = 0; i < 40; i++) {
                int h = x.hours(1 + i * 7 % 30);
                due("SEED " + seed + " at " + h, x.count(12), Lots.isLess(100, seed, 4 * h, 37) ? 1 : 0);
            }
        }
    }

    private void toldByHowItWas() {
        terms("A WORD is TOLD to a YOUNG one not gone HOME, at the LIGHTER's CORNER, all by how it was ahead:");
        BlushLamps x = town("corner a;young p 10 0 a;word w 50;glows=heat+worn*9+told*9+since;wears=glow+10+worn+told+since;");
        x.hours(3);
        due("GLOWS by HEAT, worn, told, since ahead", x.say(0, 0), 53);
        due("WEARS by glow, worn, told, since ahead", x.word(0, 0), 50 - 13);
        due("GLOWS", x.say(0, 0), 53 + 37 + 9 + 9);
        due("WEARS by glow ahead", x.word(0, 0), 0);
        BlushLamps y = later();
        due("say(2, 0), gone HOME", y.say(2, 0), NONE);
        due("say(1, 0), elsewhere", y.say(1, 0), NONE);
        y.step(0);
        due("say(1, 0), the LIGHTER's CORNER", y.say(1, 0), 18 + 19);
    }

    private void toldMost() {
        terms("they glow by GLOWS more (999 at most); its HEAT is WEARS less (0 at least).");
        BlushLamps x = town("corner a;young p 10 0 a;word u 90;word v 9;word w 1;wears=if heat<90 then 0 else 45;glows=if heat<45 then heat else 90;");
        for (int i = 1; i <= 11; i++) {
            due("say", x.say(0, 0), 90 * i);
        }
        due("say to 999", x.say(0, 1), 999);
        due("say above it", x.say(0, 2), 999);
        due("say above it", x.say(0, 0), 999);
        due("told any", x.young(0, 5), 14);
        x.undo();
        x.undo();
        x.undo();
        due("say by 1", x.say(0, 2), 991);
        BlushLamps y = town("corner a;young p 10 0 a;word w 10;wears=4;");
        int[] heats = {6, 2, 0, 0};
        for (int heat : heats) {
            y.say(0, 0);
            due("HEAT", y.word(0, 0), heat);
        }
        due("worn", y.word(0, 1), 4);
        due("glow", y.young(0, 3), 10 + 6 + 2);
    }

    private void byHand() {
        terms("By hand: the LIGHTER steps along a STREET, an HOUR goes by then; a WORD is told; a YOUNG one, not HOME, is moved to a CORNER;");
        BlushLamps x = later();
        due("step", x.step(0), 1);
        due("an HOUR goes by", x.count(4), 2);
        due("q, an HOUR later", x.young(1, 3), 18);
        due("say", x.say(1, 1), 21);
        due("q is moved", x.move(1, 2), true);
        due("no STREET is needed", x.young(1, 2), 2);
        due("no HOUR goes by", x.count(4), 2);
        due("r, HOME, is not", x.move(2, 2), false);
        due("r", x.young(2, 2), 0);
        BlushLamps y = town("corner a;corner b;street a b 9;young p 10 0 a;young q 10 0 b;cools=3;leaves=which;");
        y.rouge(0);
        y.rouge(1);
        due("step", y.step(0), 1);
        due("p, whom the LIGHTER left", y.young(0, 3), 17);
        due("q is HOME as the LIGHTER comes", y.young(1, 4), 1);
        due("the LIGHTER alone is moved", y.young(0, 2), 0);
        BlushLamps cold = town("corner a;corner b;street a b 9;young p 10 0 a;young q 10 0 b;draught 100;");
        cold.rouge(0);
        cold.rouge(1);
        cold.step(0);
        due("a DRAUGHT in that HOUR", cold.count(13), 30);
    }

    private void cools() {
        terms("AN HOUR, all by how it was as it began: each YOUNG one, not HOME, glows by COOLS less (0 at least);");
        BlushLamps x = town("corner a;young p 10 0 a;young q 10 0 a;cools=if glow<20 then 9 else hour*5+3;");
        x.rouge(0);
        x.hours(1);
        due("COOLS by the hour and the glow as it began", x.young(0, 3), 17);
        x.hours(1);
        due("COOLS", x.young(0, 3), 8);
        x.hours(1);
        due("0 at least", x.young(0, 3), 0);
        x.hours(5);
        due("0 at least", x.young(0, 3), 0);
        due("who did not glow", x.young(1, 3), 0);
        BlushLamps y = town("corner a;young p 10 0 a;cools=20;");
        y.rouge(0);
        y.hours(1);
        due("to 0 at once", y.young(0, 3), 0);
        BlushLamps z = town("corner a;young p 10 0 a;young q 10 0 a;young r 10 0 a;cools=1+which;leaves=if which<1 then 1 else if 1<which then 0 else hour;");
        z.rouge(1);
        z.rouge(2);
        z.hours(2);
        due("q, p being HOME", z.young(1, 4), 1);
        due("r, p being HOME", z.young(2, 3), 14);
        z.hours(2);
        due("r, p and q being HOME", z.young(2, 3), 8);
    }

    private void draughts() {
        terms("if there is a DRAUGHT (LOT 100 of the SEED and 4 * the hour, counted on, is less than it) and there are CORNERS, "
            + "all at the CORNER LOT of how many CORNERS there are of the SEED and 4 * the hour and 1 glow half as much, rounded down, "
            + "behind that;");
        BlushLamps none = town("draught 100;");
        due("hours(72) without CORNERS", none.hours(72), 72);
        for (int corners = 1; corners <= 7; corners++) {
            StringBuilder text = new StringBuilder();
            for (int c = 0; c < corners; c++) {
                text.append("corner c").append((char) ('a' + c)).append(';');
            }
            int young = Math.min(6, corners);
            for (int y = 0; y < young; y++) {
                text.append("young y").append((char) ('a' + y)).append(" 10 0 c").append((char) ('a' + y)).append(";");
            }
            int seed = 31 * corners;
            BlushLamps x = town(text + "cools=1;draught 60;seed " + seed + ";");
            int[] glow = new int[young];
            for (int h = 0; h < 30; h++) {
                boolean is = Lots.isLess(100, seed, 4 * h, 60);
                int where = Lots.lot(corners, seed, 4 * h + 1);
                x.rouge(h % young);
                glow[h % young] += 20;
                x.hours(1);
                for (int y = 0; y < young; y++) {
                    glow[y] = Math.max(0, glow[y] - 1);
                    glow[y] = is && y == where ? glow[y] / 2 : glow[y];
                    due(y + " of " + corners + " at " + h, x.young(y, 3), glow[y]);
                }
            }
        }
        BlushLamps all = town("corner a;young p 10 0 a;young q 10 0 a;young r 10 0 a;draught 100;cools=if which<1 then 5 else 19;leaves=which-1;");
        all.rouge(0);
        all.rouge(1);
        all.rouge(2);
        all.hours(1);
        due("half of 20 less 5", all.young(0, 3), 7);
        due("half of 20 less 19", all.young(1, 3), 0);
        due("who is HOME then", all.young(2, 3), 0);
    }

    private void leaves() {
        terms("then who LEAVES, as it was told when it began, is HOME: glows no more.");
        BlushLamps x = town("corner a;corner b;street a b 40;young p 10 0 a;young q 20 0 b;word w 5;cools=15;leaves=glow-age;");
        x.rouge(0);
        x.rouge(1);
        x.hours(1);
        due("p, whose glow was more than 10 as it began", x.young(0, 4), 1);
        due("p glows no more", x.young(0, 3), 0);
        due("q, whose glow was 20", x.young(1, 4), 0);
        due("q", x.young(1, 3), 5);
        due("the STREET", x.street(0, 4), 35);
        due("where p was", x.young(0, 2), 0);
        x.hours(72);
        due("p stays HOME", x.young(0, 4), 1);
        BlushLamps y = town("corner a;young p 10 0 a;leaves=hour;");
        y.hours(1);
        due("by the hour as it began", y.young(0, 4), 0);
        y.hours(1);
        due("by the hour as it began", y.young(0, 4), 1);
    }

    private void theNextHour() {
        terms("It is the next hour.");
        BlushLamps x = town("corner a;corner b;street a b 1;");
        due("hours(1)", x.hours(1), 1);
        x.step(0);
        due("step", x.count(4), 2);
        BlushLamps y = town("");
        due("hours(72), an empty text", y.hours(72), 72);
    }

    private void light() {
        terms("LIGHT of a CORNER: the glow of all who are there, not HOME, added, those with ROUGE too.");
        BlushLamps x = town("corner a;corner b;young p 10 0 a;young q 20 0 a;young r 30 0 b;word w 5;leaves=which-1;");
        due("nobody glows", x.corner(0, 0), 0);
        x.say(0, 0);
        x.rouge(1);
        x.rouge(2);
        due("a WORD and ROUGE", x.corner(0, 0), 25);
        due("ROUGE", x.corner(1, 0), 20);
        x.hours(1);
        due("r is HOME", x.corner(1, 0), 0);
        x.move(1, 1);
        due("moved from", x.corner(0, 0), 5);
        due("moved to", x.corner(1, 0), 20);
        BlushLamps all = town("corner a;young p 10 0 a;young q 10 0 a;young r 10 0 a;young s 10 0 a;young t 10 0 a;young u 10 0 a;");
        for (int y = 0; y < 6; y++) {
            rouge(all, y, 50);
        }
        due("six, by 999 each", all.corner(0, 0), 6 * 999);
    }

    private void lit() {
        terms("A STREET is LIT if LIGHT of its CORNERS, added, is as much as it is LONG.");
        for (int span : new int[] {39, 40, 41}) {
            BlushLamps x = town("corner a;corner b;street a b " + span + ";young p 10 0 a;young q 10 0 b;");
            x.rouge(0);
            x.rouge(1);
            due("LONG " + span, x.street(0, 3), span <= 40 ? 1 : 0);
        }
        BlushLamps one = town("corner a;corner b;street a b 20;young p 10 0 b;");
        due("dark", one.street(0, 3), 0);
        one.rouge(0);
        due("by one of its CORNERS", one.street(0, 3), 1);
        BlushLamps least = town("corner a;corner b;street a b 1;young p 10 0 b;word w 1;lighter b;");
        due("LONG 1, by 0", least.street(0, 3), 0);
        least.say(0, 0);
        due("LONG 1, by 1", least.street(0, 3), 1);
    }

    private void needs() {
        terms("NEEDS of a STREET: by how much more its CORNERS must glow so that it is LIT (it is: 0).");
        BlushLamps x = town("corner a;corner b;street a b 40;street a b 41;street b a 99;young p 10 0 a;young q 10 0 b;");
        due("nobody glows", x.street(0, 4), 40);
        x.rouge(0);
        due("one ROUGE", x.street(0, 4), 20);
        x.rouge(1);
        due("just LIT", x.street(0, 4), 0);
        due("one too little", x.street(1, 4), 1);
        due("of the longest", x.street(2, 4), 59);
        rouge(x, 0, 50);
        due("more than that", x.street(0, 4), 0);
        due("more than that", x.street(2, 4), 0);
    }

    private void rougeMost() {
        terms("one puts on ROUGE: glows by 20 more (999 at most);");
        BlushLamps x = town("corner a;young p 10 0 a;word w 1;");
        for (int i = 1; i <= 49; i++) {
            x.rouge(0);
        }
        due("49 times", x.young(0, 3), 980);
        x.rouge(0);
        due("50 times", x.young(0, 3), 999);
        due("once more is a thing done", x.rouge(0), true);
        due("51 times", x.young(0, 3), 999);
        due("say", x.say(0, 0), 999);
        x.undo();
        x.undo();
        x.undo();
        due("undone", x.young(0, 3), 980);
    }

    private void corner() {
        promise(6, "Of a CORNER: what 0 LIGHT, 1 who, not HOME, is there (bits), 2: 1 the LIGHTER is there, else 0, 3 STREETS (bits).");
        BlushLamps x = town(TOWN);
        due("who", x.corner(0, 1), 0b101);
        x = later();
        int[][] want = {{20, 1, 1, 1}, {20, 2, 0, 1}, {0, 0, 0, 0}};
        for (int c = 0; c < 3; c++) {
            for (int what = 0; what < 4; what++) {
                due("corner(" + c + ", " + what + ")", x.corner(c, what), want[c][what]);
            }
        }
        BlushLamps many = town("corner a;corner b;corner c;" + "street a b 1;street b c 1;".repeat(5));
        due("all STREETS", many.corner(1, 3), 1023);
        due("every other one", many.corner(0, 3), 0b0101010101);
        due("the others", many.corner(2, 3), 0b1010101010);
        promise(6, "NONE for others.");
        BlushLamps y = later();
        noSuch("corner", 3, c -> y.corner(c, 0));
        noSuch("what", 4, what -> y.corner(0, what));
        due("both", y.corner(3, 4), NONE);
        due("a CORNER, none there", town("").corner(0, 0), NONE);
    }

    private void street() {
        promise(7, "Of a STREET: what 0 one CORNER, 1 the other, 2 LONG, 3: 1 LIT, else 0, 4 NEEDS.");
        BlushLamps x = town(TOWN);
        int[] first = {0, 1, 30, 0, 30};
        BlushLamps y = later();
        int[] lit = {0, 1, 30, 1, 0};
        for (int what = 0; what < 5; what++) {
            due("street(0, " + what + ")", x.street(0, what), first[what]);
            due("street(0, " + what + "), LIT", y.street(0, what), lit[what]);
        }
        promise(7, "NONE for others.");
        noSuch("street", 1, s -> y.street(s, 0));
        noSuch("what", 5, what -> y.street(0, what));
        due("none there", town("corner a;").street(0, 0), NONE);
    }

    private void young() {
        promise(8, "Of a YOUNG one: what 0 AGE, 1 TEMPER, 2 CORNER, 3 glow (HOME: 0), 4: 1 HOME, else 0, 5 how often told any, 6 since, "
            + "7: 1 ever with ROUGE, else 0, 8 COOLS (HOME: 0), 9: 1 LEAVES now, else 0 (HOME: 0).");
        BlushLamps x = town(TOWN);
        x.say(2, 0);
        x.say(2, 0);
        x.rouge(2);
        int[] out = {30, 9, 0, 59, 0, 2, 0, 1, 2, 1};
        for (int what = 0; what < 10; what++) {
            due("young(2, " + what + ")", x.young(2, what), out[what]);
        }
        x.hours(5);
        int[] home = {30, 9, 0, 0, 1, 2, 5, 1, 0, 0};
        for (int what = 0; what < 10; what++) {
            due("young(2, " + what + "), HOME", x.young(2, what), home[what]);
        }
        int[] other = {10, 0, 0, 0, 0, 0, 5, 0, 2, 0};
        for (int what = 0; what < 10; what++) {
            due("young(0, " + what + ")", x.young(0, what), other[what]);
        }
        promise(8, "NONE for others.");
        BlushLamps y = later();
        noSuch("young", 3, i -> y.young(i, 0));
        noSuch("what", 10, what -> y.young(0, what));
        due("what of one HOME", y.young(2, 10), NONE);
        due("none there", town("corner a;").young(0, 0), NONE);
    }

    private void word() {
        promise(9, "Of a WORD: what 0 HEAT now, 1 worn.");
        BlushLamps x = town(TOWN);
        due("HEAT", x.word(0, 0), 20);
        due("worn", x.word(0, 1), 0);
        for (int i = 0; i < 25; i++) {
            x.say(0, 0);
        }
        due("HEAT now", x.word(0, 0), 0);
        due("worn", x.word(0, 1), 25);
        due("another's HEAT", x.word(1, 0), 3);
        promise(9, "NONE for others.");
        noSuch("word", 2, w -> x.word(w, 0));
        noSuch("what", 2, what -> x.word(0, what));
        due("none there", town("corner a;").word(0, 0), NONE);
    }

    private void tells() {
        promise(10, "What a LAW tells of a YOUNG one and a WORD now: what 0 GLOWS, 1 WEARS;");
        BlushLamps x = later();
        due("GLOWS", x.tells(0, 0, 0), 19);
        due("WEARS", x.tells(0, 0, 1), 1);
        due("of one HOME", x.tells(2, 1, 0), 3);
        due("of one elsewhere than the LIGHTER", x.tells(1, 1, 0), 3);
        promise(10, "NONE: no such ones.");
        noSuch("young", 3, y -> x.tells(y, 0, 0));
        noSuch("word", 2, w -> x.tells(0, w, 0));
        noSuch("what", 2, what -> x.tells(0, 0, what));
        due("no WORDS", town("corner a;young p 10 0 a;").tells(0, 0, 0), NONE);
        due("no YOUNG", town("word w 1;").tells(0, 0, 0), NONE);
    }

    private void step() {
        promise(11, "The LIGHTER steps: at which CORNER they are;");
        BlushLamps x = town(TOWN);
        due("step(0)", x.step(0), 1);
        due("step(0) back", x.step(0), 0);
        due("the hour", x.count(4), 2);
        BlushLamps two = town("corner a;corner b;street a b 1;street b a 2;");
        due("by the other one", two.step(1), 1);
        due("and back", two.step(0), 0);
        promise(11, "NONE, and nothing happens: not a STREET of their CORNER, no such one.");
        BlushLamps y = town(TOWN + "street b c 9;");
        y.rouge(0);
        List<Integer> before = seen(y);
        due("not of their CORNER", y.step(1), NONE);
        for (int s : outside(2)) {
            due("step(" + s + ")", y.step(s), NONE);
        }
        same("all", seen(y), before);
        due("none there", town("corner a;").step(0), NONE);
        due("no CORNERS", new BlushLamps().step(0), NONE);
    }

    private void say() {
        promise(12, "A WORD is told: how they glow;");
        BlushLamps x = later();
        due("say", x.say(0, 1), 23);
        due("say of HEAT 0", town("corner a;young p 10 0 a;word w 0;").say(0, 0), 0);
        promise(12, "NONE, and nothing happens: HOME, not at the LIGHTER's CORNER, no such ones.");
        List<Integer> before = seen(x);
        due("HOME", x.say(2, 0), NONE);
        due("not at the LIGHTER's CORNER", x.say(1, 0), NONE);
        for (int y : outside(3)) {
            due("say(" + y + ", 0)", x.say(y, 0), NONE);
        }
        for (int w : outside(2)) {
            due("say(0, " + w + ")", x.say(0, w), NONE);
        }
        same("all", seen(x), before);
        due("no WORDS", town("corner a;young p 10 0 a;").say(0, 0), NONE);
        due("no YOUNG", town("corner a;word w 1;").say(0, 0), NONE);
    }

    private void move() {
        promise(13, "Moved: true; false, and nothing happens: HOME, there, no such ones.");
        BlushLamps x = later();
        List<Integer> before = seen(x);
        due("HOME", x.move(2, 1), false);
        due("HOME, there", x.move(2, 0), false);
        due("there", x.move(0, 0), false);
        for (int y : outside(3)) {
            due("move(" + y + ", 1)", x.move(y, 1), false);
        }
        for (int c : outside(3)) {
            due("move(0, " + c + ")", x.move(0, c), false);
        }
        same("all", seen(x), before);
        due("move(0, 2)", x.move(0, 2), true);
        due("where", x.young(0, 2), 2);
        due("a thing done", x.count(9), 4);
        due("the hour", x.count(4), 1);
        due("there now", x.move(0, 2), false);
    }

    private void rouge() {
        promise(14, "ROUGE: true; false, and nothing happens: HOME, no such one.");
        BlushLamps x = later();
        List<Integer> before = seen(x);
        due("HOME", x.rouge(2), false);
        for (int y : outside(3)) {
            due("rouge(" + y + ")", x.rouge(y), false);
        }
        same("all", seen(x), before);
        due("rouge(0)", x.rouge(0), true);
        due("glow", x.young(0, 3), 40);
        due("ever", x.count(18), 3);
        due("none there", new BlushLamps().rouge(0), false);
    }

    private void hours() {
        promise(15, "n HOURS (0 .. 72; 0 is no thing done) go by: which it is, counted on;");
        BlushLamps x = town(TOWN);
        due("hours(0)", x.hours(0), 0);
        due("no thing done", x.count(9), 0);
        due("undo()", x.undo(), false);
        due("hours(1)", x.hours(1), 1);
        due("a thing done", x.count(9), 1);
        due("hours(72)", x.hours(72), 73);
        due("hours(0)", x.hours(0), 73);
        due("one thing each", x.count(9), 2);
        promise(15, "NONE, and nothing happens: no such n.");
        BlushLamps y = later();
        List<Integer> before = seen(y);
        for (int n : outside(73)) {
            due("hours(" + n + ")", y.hours(n), NONE);
        }
        same("all", seen(y), before);
    }

    private void undo() {
        promise(16, "The last thing done (step, say, move, rouge, hours) is undone: true;");
        BlushLamps x = town(TOWN);
        List<Integer> first = seen(x);
        x.step(0);
        List<Integer> second = seen(x);
        due("say", x.say(1, 0), 20);
        List<Integer> third = seen(x);
        x.move(1, 2);
        x.undo();
        same("behind move", seen(x), third);
        due("undo() say", x.undo(), true);
        same("behind say", seen(x), second);
        due("undo() step", x.undo(), true);
        same("behind step", seen(x), first);
        BlushLamps y = town(TOWN);
        y.rouge(2);
        due("undo() rouge", y.undo(), true);
        same("behind rouge", seen(y), first);
        y.hours(72);
        due("undo() hours", y.undo(), true);
        same("behind hours", seen(y), first);
        aFullTown();
        promise(16, "false: there is none (the last 40 can be).");
        BlushLamps z = town(TOWN);
        due("none", z.undo(), false);
        for (int i = 1; i <= 41; i++) {
            z.hours(1);
            due("count(9)", z.count(9), Math.min(40, i));
        }
        for (int i = 0; i < 15; i++) {
            due("undo()", z.undo(), true);
        }
        due("the hour", z.count(4), 26);
        for (int i = 0; i < 20; i++) {
            z.hours(2);
        }
        due("count(9)", z.count(9), 40);
        for (int i = 1; i <= 40; i++) {
            due("undo()", z.undo(), true);
            due("the hour", z.count(4), i <= 20 ? 66 - 2 * i : 46 - i);
        }
        due("the 41st", z.undo(), false);
        due("the hour", z.count(4), 6);
        due("count(9)", z.count(9), 0);
        refusedIsNoThingDone();
    }

    /** As many of each sort as there can be: the last YOUNG one and the last WORD come back as well. */
    private void aFullTown() {
        StringBuilder text = new StringBuilder();
        for (int c = 0; c < 7; c++) {
            text.append("corner c").append((char) ('a' + c)).append(';');
        }
        for (int y = 0; y < 6; y++) {
            text.append("young y").append((char) ('a' + y)).append(" 10 0 ca;");
        }
        for (int w = 0; w < 5; w++) {
            text.append("word w").append((char) ('a' + w)).append(" 50;");
        }
        BlushLamps x = town(text + "street ca cg 1;leaves=if told<2 then 0 else which-4;");
        x.hours(3);
        x.say(5, 4);
        x.move(5, 3);
        List<Integer> before = seen(x);
        x.hold(2);
        x.hours(1);
        x.move(5, 0);
        x.say(5, 4);
        x.move(5, 6);
        x.rouge(5);
        x.step(0);
        x.hours(2);
        due("the sixth is HOME", x.young(5, 4), 1);
        for (int i = 0; i < 7; i++) {
            due("undo()", x.undo(), true);
        }
        before.set(11, 1);
        same("a full town", seen(x), before);
        x.hours(1);
        x.move(5, 0);
        x.say(5, 4);
        x.rouge(5);
        x.restore(2);
        before.set(9, 0);
        same("a full town gone on from", seen(x), before);
    }

    private void refusedIsNoThingDone() {
        BlushLamps x = town(TOWN);
        x.rouge(1);
        x.step(9);
        x.say(1, 0);
        x.move(0, 0);
        x.rouge(9);
        x.hours(0);
        x.hours(73);
        x.tell(0, 5, true);
        x.hold(0);
        due("count(9)", x.count(9), 1);
        due("undo()", x.undo(), true);
        due("the ROUGE is undone", x.young(1, 3), 0);
        due("what is TOLD is not undone", x.count(10), 1);
        due("what is held is not undone", x.count(11), 1);
    }
}
