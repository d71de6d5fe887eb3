import java.util.List;

/** The edges of section III of the Terms and of promises 17 to 34: what would be. */
final class EdgesOfQuestions extends Edges {
    /** p, at a, is HOME behind the first hour; then q, at b, and r, at c, stay; d is by itself. */
    private static final String TOWN = "corner a;corner b;corner c;corner d;street a b 20;street b c 20;street a c 41;"
        + "young p 10 0 a;young q 20 5 b;young r 30 9 c;word w 20;word v 30;word u 30;leaves=1-which;";

    EdgesOfQuestions(Check check, Sentences sentences) {
        super(check, sentences);
    }

    @Override
    void look() {
        nothingHappens();
        darkens();
        best();
        bestOfAlike();
        telling();
        keep();
        steps();
        round();
        safe();
        dark();
        bridges();
        gather();
        moves();
        cut();
        tree();
        twins();
        brightest();
        inHours();
        thenAsked();
        year();
    }

    /** The town an hour later, with q glowing by 20; ab and bc are LIT. */
    private static BlushLamps later() {
        BlushLamps x = town(TOWN);
        x.hours(1);
        x.rouge(1);
        return x;
    }

    /** The town behind the first hour, with q and r gone HOME too. */
    private static BlushLamps allHome() {
        BlushLamps x = town(TOWN.replace("leaves=1-which", "leaves=1"));
        x.hours(1);
        return x;
    }

    /** CORNERS a, b, .., and these STREETS ("ab" and so on) of LONG 20. */
    private static BlushLamps net(int corners, String streets, String more) {
        StringBuilder text = new StringBuilder();
        for (int c = 0; c < corners; c++) {
            text.append("corner ").append((char) ('a' + c)).append(';');
        }
        for (int i = 0; i < streets.length(); i += 3) {
            text.append("street ").append(streets.charAt(i)).append(' ').append(streets.charAt(i + 1)).append(" 20;");
        }
        return town(text + more);
    }

    private void nothingHappens() {
        terms("What would be (nothing happens; DRAUGHTS in IN n HOURS and YEAR alone).");
        BlushLamps x = town(TOWN + "draught 100;cools=1;");
        x.rouge(1);
        x.tell(1, 5, true);
        x.hold(2);
        List<Integer> before = seen(x);
        for (int i = -1; i < 4; i++) {
            x.darkens(i);
            x.best(i);
            x.telling(i, 1);
            x.keep();
            x.steps(i, 0);
            x.round();
            x.safe(i);
            x.dark(i, 0);
            x.bridges();
            x.gather(i);
            x.moves(i, 1);
            x.cut(i, 0);
            x.tree();
            x.twins(i);
            x.brightest(i);
            x.glowIn(i, 72);
            x.then(72, i);
            x.year(i, 72, 20);
            x.words(i, 0);
            x.look(i, 0);
        }
        same("all", seen(x), before);
        // a DRAUGHT at every hour, at the one CORNER or at the other
        BlushLamps y = town("corner a;corner b;street a b 30;young p 10 0 a;young q 10 0 b;draught 100;");
        y.rouge(0);
        y.rouge(1);
        due("darkens, without DRAUGHTS", y.darkens(0), NOTHING);
        due("in 2 HOURS, with DRAUGHTS", y.glowIn(0, 2) + y.glowIn(1, 2) < 30, true);
        due("then, with DRAUGHTS", y.then(2, 0), 0);
        due("year, with DRAUGHTS", y.year(0, 2, 20), 0);
    }

    private void darkens() {
        terms("DARKENS of a STREET: behind how many HOURS (0 .. 100) it is not LIT.");
        for (int span : new int[] {1, 19, 20, 21, 22, 99}) {
            BlushLamps x = town("corner a;corner b;street a b " + span + ";young p 10 0 a;cools=1;");
            rouge(x, 0, 6);
            due("from 120 on, LONG " + span, x.darkens(0), span < 21 ? NOTHING : 121 - span);
        }
        BlushLamps home = town("corner a;corner b;street a b 20;young p 10 0 a;leaves=since-98;");
        home.rouge(0);
        due("p goes HOME in the 100th", home.darkens(0), 100);
        home.hours(1);
        due("an HOUR later", home.darkens(0), 99);
        BlushLamps x = town("corner a;corner b;street a b 20;young p 10 0 a;leaves=since-99;");
        x.rouge(0);
        due("p goes HOME in the 101st", x.darkens(0), NOTHING);
        promise(17, "DARKENS (0: it is not LIT now); -2: not; NONE: no such STREET.");
        BlushLamps y = later();
        due("not LIT now", y.darkens(2), 0);
        due("not", y.darkens(0), NOTHING);
        BlushLamps told = town("corner a;corner b;street a b 20;young p 10 0 a;word w 30;cools=told+since/3;");
        told.hours(5);
        told.say(0, 0);
        // 30 less 1 1 1 2 2 2 3
        due("by how often and since when they were told", told.darkens(0), 7);
        noSuch("darkens", 3, y::darkens);
        due("none there", new BlushLamps().darkens(0), NONE);
        due("none there", town("corner a;").darkens(0), NONE);
    }

    private void best() {
        promise(18, "BEST: how many STREETS (i NONE), else where the i-th YOUNG one is (-2: HOME); NONE: no such one.");
        BlushLamps x = later();
        due("i NONE", x.best(NONE), 2);
        due("p, HOME", x.best(0), NOTHING);
        due("q", x.best(1), 1);
        due("r", x.best(2), 0);
        for (int i : outside(3)) {
            due("best(" + i + ")", x.best(i), i == NONE ? 2 : NONE);
        }
        BlushLamps home = allHome();
        due("all HOME", home.best(NONE), 0);
        due("all HOME", home.best(2), NOTHING);
        due("all HOME, no such one", home.best(3), NONE);
        due("no YOUNG", town("corner a;corner b;street a b 1;").best(NONE), 0);
        due("no YOUNG", town("corner a;corner b;street a b 1;").best(0), NONE);
        due("no CORNERS", new BlushLamps().best(NONE), 0);
        due("no CORNERS", new BlushLamps().best(0), NONE);
    }

    private void bestOfAlike() {
        terms("BEST: YOUNG ones not HOME, each at any CORNER, as they glow now, so that most STREETS are LIT: how many; "
            + "where the i-th is, of alike ones the lowest CORNER for the first, then for the next one.");
        int[][] want = {{20, 1, 0, 1}, {40, 1, 1, 1}, {41, 0, 0, 0}};
        for (int[] w : want) {
            BlushLamps x = town("corner a;corner b;corner c;street b c " + w[0] + ";young p 10 0 c;young q 10 0 c;");
            due("nobody glows, LONG " + w[0], x.best(NONE), 0);
            due("nobody glows, LONG " + w[0], x.best(1), 0);
            x.rouge(0);
            x.rouge(1);
            due("how many, LONG " + w[0], x.best(NONE), w[1]);
            due("the first, LONG " + w[0], x.best(0), w[2]);
            due("the next one, LONG " + w[0], x.best(1), w[3]);
        }
        // q's 40 at b or c, p's 20 anywhere: the lowest for p first
        BlushLamps y = town("corner a;corner b;corner c;street b c 40;young p 10 0 c;young q 10 0 c;");
        y.rouge(0);
        rouge(y, 1, 2);
        due("p", y.best(0), 0);
        due("q", y.best(1), 1);
        bestOfAFullTown();
        bestAsTheyGlowNow();
        // as they glow now: p's 20 at a lights both of a's, at b one
        BlushLamps star = net(4, "ab ac ad", "young p 10 0 d;young q 10 0 d;leaves=1-which;");
        star.rouge(0);
        star.rouge(1);
        due("the star", star.best(NONE), 3);
        due("p in its midst", star.best(0), 0);
        due("q", star.best(1), 0);
        star.hours(1);
        due("p is HOME", star.best(0), NOTHING);
        due("q alone", star.best(NONE), 3);
        due("no STREETS", net(3, "", "young p 10 0 c;").best(NONE), 0);
        due("no STREETS, where", net(3, "", "young p 10 0 c;").best(0), 0);
    }

    /** Asked again behind everything that changes how they glow, or who there is. */
    private void bestAsTheyGlowNow() {
        BlushLamps x = net(3, "bc", "young p 10 0 a;word w 20;cools=1;");
        bestOfOne("nobody glows", x, 0, 0);
        x.hold(1);
        x.say(0, 0);
        bestOfOne("told", x, 1, 1);
        x.undo();
        bestOfOne("undone", x, 0, 0);
        x.rouge(0);
        bestOfOne("ROUGE", x, 1, 1);
        x.restore(1);
        bestOfOne("gone on from", x, 0, 0);
        x.rouge(0);
        bestOfOne("ROUGE", x, 1, 1);
        x.hours(1);
        bestOfOne("an HOUR later", x, 0, 0);
        x.undo();
        bestOfOne("undone", x, 1, 1);
        Check.read(x, "corner a;corner b;street a b 1;young p 10 0 a;");
        bestOfOne("another text", x, 0, 0);
        Check.read(x, "corner a;corner b;corner c;corner d;street c d 1;young p 10 0 a;word w 1;");
        bestOfOne("another text", x, 0, 0);
        x.say(0, 0);
        bestOfOne("by 1", x, 1, 2);
        BlushLamps two = net(3, "bc", "young p 10 0 a;young q 10 0 a;word w 20;cools=20*which;");
        two.rouge(1);
        due("q alone", two.best(1), 1);
        two.rouge(0);
        due("p and q, p", two.best(0), 0);
        due("p and q, q", two.best(1), 1);
        two.hours(1);
        due("p alone, p", two.best(0), 1);
        due("p alone, q", two.best(1), 0);
    }

    private void bestOfOne(String when, BlushLamps x, int many, int where) {
        due(when + ", how many", x.best(NONE), many);
        due(when + ", where", x.best(0), where);
    }

    /** Six YOUNG ones and seven CORNERS, every place of every one tried. */
    private void bestOfAFullTown() {
        int[][] ends = {{0, 1}, {1, 2}, {2, 3}, {3, 4}, {4, 5}, {5, 6}, {6, 0}, {1, 4}, {2, 6}, {3, 5}};
        int[][] spans = {{40, 55, 60, 22, 41, 80, 35, 70, 28, 50}, {1, 99, 98, 97, 96, 95, 94, 93, 92, 91}, {9, 9, 9, 9, 9, 9, 9, 9, 9, 9},
            {99, 99, 99, 99, 99, 1, 99, 2, 99, 99}, {99, 99, 99, 99, 99, 99, 3, 99, 3, 99}};
        int[][] heats = {{13, 28, 0, 28, 41, 5}, {33, 0, 47, 12, 60, 1}, {9, 9, 0, 9, 9, 8}, {1, 2, 3, 4, 5, 6}, {3, 0, 0, 0, 0, 2}, {1, 0, 0, 2, 0, 0},
            {0, 0, 0, 0, 0, 1}, {0, 0, 1, 1, 1, 0}};
        for (int[] span : spans) {
            for (int[] heat : heats) {
                StringBuilder text = new StringBuilder();
                for (int c = 0; c < 7; c++) {
                    text.append("corner c").append((char) ('a' + c)).append(';');
                }
                for (int s = 0; s < 10; s++) {
                    text.append("street c").append((char) ('a' + ends[s][0])).append(" c").append((char) ('a' + ends[s][1]))
                        .append(' ').append(span[s]).append(';');
                }
                for (int y = 0; y < 6; y++) {
                    text.append("young y").append((char) ('a' + y)).append(' ').append(10 + y).append(" 0 cg;");
                }
                text.append("word w 1;lighter cg;wears=0;glows=if which<2 then (1-which)*").append(heat[0]).append("+which*").append(heat[1])
                    .append(" else if which<4 then (3-which)*").append(heat[2]).append("+(which-2)*").append(heat[3])
                    .append(" else (5-which)*").append(heat[4]).append("+(which-4)*").append(heat[5]).append(';');
                BlushLamps x = town(text.toString());
                for (int y = 0; y < 6; y++) {
                    due("glow", x.say(y, 0), heat[y]);
                }
                int[] want = tryAll(ends, span, heat);
                due("a full town, how many", x.best(NONE), want[6]);
                for (int y = 0; y < 6; y++) {
                    due("a full town, where " + y + " is", x.best(y), want[y]);
                }
            }
        }
    }

    /** Where the six are, and behind them how many STREETS are LIT. */
    private static int[] tryAll(int[][] ends, int[] span, int[] glow) {
        int[] best = {0, 0, 0, 0, 0, 0, -1};
        int[] where = new int[6];
        for (int code = 0; code < 117649; code++) {
            int[] light = new int[7];
            int left = code;
            for (int y = 5; y >= 0; y--) {
                where[y] = left % 7;
                light[where[y]] += glow[y];
                left /= 7;
            }
            int lit = 0;
            for (int s = 0; s < 10; s++) {
                lit += light[ends[s][0]] + light[ends[s][1]] >= span[s] ? 1 : 0;
            }
            if (lit > best[6]) {
                System.arraycopy(where, 0, best, 0, 6);
                best[6] = lit;
            }
        }
        return best;
    }

    private void telling() {
        terms("TELLING of a YOUNG one: the WORD by which they would glow most, told now (the LIGHTER anywhere), of alike ones the first; how much.");
        BlushLamps x = later();
        due("of alike ones the first, the LIGHTER elsewhere", x.telling(1, 0), 1);
        due("with what they glow by now", x.telling(1, 1), 50);
        BlushLamps held = town("corner a;young p 10 0 a;word u 20;word v 60;word w 70;glows=heat*2;");
        due("held to 99, the first", held.telling(0, 0), 1);
        due("held to 99", held.telling(0, 1), 99);
        // 940 and 40, 99, 99, then 960 and as much
        rouge(held, 0, 47);
        due("999 at most, not by the first", held.telling(0, 0), 1);
        due("999 at most", held.telling(0, 1), 999);
        held.rouge(0);
        due("999 at most by all, the first", held.telling(0, 0), 0);
        due("999 at most", held.telling(0, 1), 999);
        due("the first of all", town("corner a;young p 10 0 a;word u 30;word v 20;word w 10;").telling(0, 0), 0);
        due("the last of all", town("corner a;young p 10 0 a;word u 9;word v 5;word w 7;word x 4;word y 10;").telling(0, 0), 4);
        BlushLamps none = town("corner a;young p 10 0 a;word u 20;word v 60;glows=0-heat;");
        due("nothing more by any, the first", none.telling(0, 0), 0);
        due("nothing more by any", none.telling(0, 1), 0);
        promise(19, "TELLING: what 0 which, 1 how much; -2: no WORDS, HOME; NONE: no such ones.");
        due("HOME", x.telling(0, 0), NOTHING);
        due("HOME", x.telling(0, 1), NOTHING);
        due("HOME, no such what", x.telling(0, 2), NONE);
        BlushLamps silent = town("corner a;young p 10 0 a;");
        due("no WORDS", silent.telling(0, 0), NOTHING);
        due("no WORDS", silent.telling(0, 1), NOTHING);
        due("no WORDS, no such one", silent.telling(1, 0), NONE);
        noSuch("telling", 3, y -> x.telling(y, 0));
        noSuch("what", 2, what -> x.telling(1, what));
        due("none there", new BlushLamps().telling(0, 0), NONE);
    }

    private void keep() {
        terms("KEEP: the WORD of which HEAT less what WEARS tells for it (of the first YOUNG one not HOME) is greatest, of alike ones the first.");
        BlushLamps x = town("corner a;young p 10 0 a;young q 20 0 a;word u 30;word v 40;word w 50;"
            + "wears=if age<20 then (heat-30)*2 else (50-heat)/2;leaves=if which<1 then hour else 0;");
        // p: 30 - 0, 40 - 20, 50 - 40; q: 30 - 10, 40 - 5, 50 - 0
        due("of p", x.keep(), 0);
        x.hours(1);
        due("of p", x.keep(), 0);
        x.hours(1);
        due("of q, as p is HOME", x.keep(), 2);
        due("of alike ones", town("corner a;young p 10 0 a;word u 5;word v 9;word w 9;").keep(), 1);
        due("the first of all", town("corner a;young p 10 0 a;word u 9;word v 5;word w 7;").keep(), 0);
        due("the last of all", town("corner a;young p 10 0 a;word u 9;word v 5;word w 7;word x 4;word y 10;").keep(), 4);
        due("of alike ones, by WEARS", town("corner a;young p 10 0 a;word u 5;word v 9;wears=heat;").keep(), 0);
        due("below 0, WEARS held to 99", town("corner a;young p 10 0 a;word u 5;word v 9;word w 7;wears=heat+200;").keep(), 1);
        promise(20, "KEEP; -2: no WORDS, all HOME.");
        due("no WORDS", town("corner a;young p 10 0 a;").keep(), NOTHING);
        due("all HOME", allHome().keep(), NOTHING);
        due("nobody", town("corner a;word w 9;").keep(), NOTHING);
        due("a new object", new BlushLamps().keep(), NOTHING);
        due("one of each", town("corner a;young p 10 0 a;word w 0;").keep(), 0);
    }

    private void steps() {
        promise(21, "STEPS; -2: there is no way; NONE: no such CORNERS.");
        BlushLamps x = net(7, "fg ef de cd bc ab", "");
        for (int from = 0; from < 7; from++) {
            for (int to = 0; to < 7; to++) {
                due("steps(" + from + ", " + to + ")", x.steps(from, to), Math.abs(from - to));
            }
        }
        BlushLamps y = later();
        due("no way", y.steps(0, 3), NOTHING);
        due("no way", y.steps(3, 0), NOTHING);
        due("to itself", y.steps(3, 3), 0);
        noSuch("from", 4, c -> y.steps(c, 0));
        noSuch("to", 4, c -> y.steps(0, c));
        due("none there", new BlushLamps().steps(0, 0), NONE);
    }

    private void round() {
        terms("ROUND: the fewest STREETS, from the LIGHTER's CORNER on, by which all CORNERS are passed where YOUNG ones, not HOME, are.");
        BlushLamps far = net(3, "ab", "young p 10 0 c;young q 10 0 b;leaves=1-which;");
        due("p has no way", far.round(), NOTHING);
        far.hours(1);
        due("p is HOME", far.round(), 1);
        BlushLamps path = net(7, "ab bc cd de ef fg", "lighter d;young p 10 0 a;young q 10 0 g;young r 10 0 g;");
        due("from the midst to both ends", path.round(), 3 + 6);
        path.step(3);
        due("a step nearer to one", path.round(), 2 + 6);
        path.move(0, 4);
        due("one where the LIGHTER is", path.round(), 2);
        // all at once: a and six around it, six YOUNG ones there; out and back, but for the last
        BlushLamps star = net(7, "ab ac ad ae af ag", "young p 10 0 b;young q 10 0 c;young r 10 0 d;young s 10 0 e;young t 10 0 f;young u 10 0 g;");
        due("six around it", star.round(), 11);
        promise(22, "ROUND (nobody to pass: 0); -2: there is none, no CORNERS.");
        due("nobody", net(2, "", "").round(), 0);
        due("nobody, all HOME", allHome().round(), 0);
        due("there already", net(2, "", "young p 10 0 a;").round(), 0);
        due("there is none", net(2, "", "young p 10 0 b;").round(), NOTHING);
        due("no CORNERS", new BlushLamps().round(), NOTHING);
        due("no CORNERS", town("word w 1;").round(), NOTHING);
    }

    private void safe() {
        terms("SAFE from a CORNER: CORNERS to which one comes by LIT STREETS alone, itself too.");
        BlushLamps x = later();
        due("from a", x.safe(0), 0b0111);
        due("from d", x.safe(3), 0b1000);
        x.undo();
        due("all dark", x.safe(0), 0b0001);
        promise(23, "SAFE (bits); NONE: no such CORNER.");
        noSuch("safe", 4, x::safe);
        due("the seventh", net(7, "", "").safe(6), 64);
        due("none there", new BlushLamps().safe(0), NONE);
    }

    private void dark() {
        terms("DARK from a CORNER to a CORNER: the fewest STREETS not LIT on any way.");
        BlushLamps x = net(6, "ab bc ad de ef fc", "young p 10 0 d;young q 10 0 f;");
        due("nobody glows: the shorter way", x.dark(0, 2), 2);
        x.rouge(0);
        due("three STREETS, two of them dark", x.dark(0, 2), 2);
        x.rouge(1);
        due("four LIT ones", x.dark(0, 2), 0);
        due("a dark one", x.dark(0, 1), 1);
        promise(24, "DARK; -2: there is no way; NONE: no such CORNERS.");
        BlushLamps y = later();
        due("no way", y.dark(0, 3), NOTHING);
        due("to itself", y.dark(3, 3), 0);
        due("by b", y.dark(0, 2), 0);
        noSuch("from", 4, c -> y.dark(c, 0));
        noSuch("to", 4, c -> y.dark(0, c));
        due("none there", new BlushLamps().dark(0, 0), NONE);
    }

    private void bridges() {
        terms("BRIDGES: LIT STREETS without which one could not go between their CORNERS by LIT ones.");
        promise(25, "BRIDGES (bits).");
        BlushLamps x = later();
        due("ab and bc, ac is dark", x.bridges(), 0b011);
        x.rouge(2);
        due("ac is one too dark", x.bridges(), 0b011);
        x.rouge(2);
        x.rouge(2);
        due("ac is LIT: a round", x.bridges(), 0);
        BlushLamps two = net(2, "ab ab", "young p 10 0 a;");
        due("dark", two.bridges(), 0);
        two.rouge(0);
        due("two side by side", two.bridges(), 0);
        due("none there", new BlushLamps().bridges(), 0);
        BlushLamps last = net(3, "ab ab ab ab ab ab ab ab ab bc", "young p 10 0 c;");
        last.rouge(0);
        due("the tenth", last.bridges(), 512);
    }

    private void gather() {
        terms("GATHER: the CORNER to which all YOUNG ones, not HOME, have fewest STEPS, added, of alike ones the first; how many.");
        BlushLamps x = net(4, "ab bc cd", "young p 10 0 a;young q 10 0 d;young r 10 0 d;leaves=which-1;");
        due("two at d", x.gather(0), 3);
        due("two at d", x.gather(1), 3);
        x.hours(1);
        due("r is HOME, of alike ones the first", x.gather(0), 0);
        due("r is HOME", x.gather(1), 3);
        promise(26, "GATHER: what 0 which, 1 how many; -2: no CORNER to which all have a way; NONE for others.");
        BlushLamps apart = net(3, "ab", "young p 10 0 a;young q 10 0 c;leaves=which;");
        due("no such CORNER", apart.gather(0), NOTHING);
        due("no such CORNER", apart.gather(1), NOTHING);
        apart.hours(1);
        due("q is HOME", apart.gather(0), 0);
        due("q is HOME", apart.gather(1), 0);
        apart.move(0, 2);
        due("one alone", apart.gather(0), 2);
        due("all HOME", allHome().gather(0), 0);
        due("all HOME", allHome().gather(1), 0);
        due("nobody", net(2, "", "").gather(1), 0);
        due("no CORNERS", new BlushLamps().gather(0), NOTHING);
        due("no CORNERS", new BlushLamps().gather(1), NOTHING);
        due("no CORNERS, another what", new BlushLamps().gather(2), NONE);
        noSuch("what", 2, x::gather);
    }

    private void moves() {
        terms("MOVES for a STREET: how few YOUNG ones, not HOME, standing elsewhere than at its CORNERS, must be moved there so that it is LIT; "
            + "who, of as many the least bits.");
        BlushLamps x = town("corner a;corner b;corner c;street a b 60;young o 10 0 b;young p 10 0 c;young q 10 0 c;young r 10 0 c;young s 10 0 c;");
        for (int y = 0; y < 5; y++) {
            x.rouge(y);
        }
        due("two more", x.moves(0, 0), 2);
        due("p and q", x.moves(0, 1), 0b00110);
        x.rouge(4);
        due("one is enough", x.moves(0, 0), 1);
        due("s", x.moves(0, 1), 0b10000);
        x.rouge(3);
        due("of as many", x.moves(0, 1), 0b01000);
        rouge(x, 0, 2);
        due("LIT", x.moves(0, 0), 0);
        due("LIT", x.moves(0, 1), 0);
        promise(27, "MOVES: what 0 how few, 1 who (bits); -2: not by all; NONE: no such ones.");
        BlushLamps few = town("corner a;corner b;corner c;street a b 41;street a b 40;young p 10 0 c;young q 10 0 c;young r 10 0 c;leaves=which-1;");
        few.rouge(0);
        few.rouge(1);
        due("not by all", few.moves(0, 0), NOTHING);
        due("not by all", few.moves(0, 1), NOTHING);
        due("by all who glow", few.moves(1, 0), 2);
        due("by all who glow", few.moves(1, 1), 3);
        few.rouge(2);
        due("by all", few.moves(0, 0), 3);
        due("by all", few.moves(0, 1), 7);
        few.hours(1);
        due("r is HOME", few.moves(0, 0), NOTHING);
        noSuch("street", 2, s -> few.moves(s, 0));
        noSuch("what", 2, what -> few.moves(1, what));
        due("no such what, not by all", few.moves(0, 2), NONE);
        due("all HOME", allHome().moves(0, 0), NOTHING);
        due("none there", new BlushLamps().moves(0, 0), NONE);
    }

    private void cut() {
        promise(28, "CUT (0: one does not come there); NONE: no such CORNERS, one and the same.");
        BlushLamps x = later();
        due("ab", x.cut(0, 1), 1);
        due("by b", x.cut(0, 2), 1);
        due("one does not come to d", x.cut(0, 3), 0);
        due("one does not come from d", x.cut(3, 0), 0);
        noSuch("from", 1, c -> c > 0 && c < 4 ? NONE : x.cut(c, 1));
        noSuch("to", 1, c -> c > 0 && c < 4 ? NONE : x.cut(1, c));
        for (int c = 0; c < 4; c++) {
            due("one and the same", x.cut(c, c), NONE);
        }
        x.undo();
        due("dark", x.cut(0, 1), 0);
        BlushLamps ten = net(2, "ab ab ab ab ab ab ab ab ab ab", "young p 10 0 a;");
        ten.rouge(0);
        due("ten side by side", ten.cut(1, 0), 10);
        BlushLamps far = net(7, "ab bc cd de ef fg ag", "young p 10 0 a;young q 10 0 c;young r 10 0 e;young s 10 0 g;");
        for (int y = 0; y < 4; y++) {
            far.rouge(y);
        }
        due("around", far.cut(0, 3), 2);
        due("none there", new BlushLamps().cut(0, 1), NONE);
        due("no such CORNERS, the same", new BlushLamps().cut(0, 0), NONE);
    }

    private void tree() {
        promise(29, "TREE (one CORNER: 0); -2: not all can be joined, no CORNERS.");
        due("one CORNER", net(1, "", "").tree(), 0);
        due("no CORNERS", new BlushLamps().tree(), NOTHING);
        due("no CORNERS", town("word w 1;").tree(), NOTHING);
        due("two, no STREET", net(2, "", "").tree(), NOTHING);
        due("two", net(2, "ab", "").tree(), 20);
        due("d by itself", later().tree(), NOTHING);
        due("two and two", net(4, "ab ab cd cd", "").tree(), NOTHING);
        due("seven", net(7, "gf fe ed dc cb ba ga gb ca da", "").tree(), 120);
        due("by either end", town("corner a;corner b;corner c;street b a 5;street b c 7;street a c 9;").tree(), 12);
        due("by either end", town("corner a;corner b;corner c;street a c 5;street b c 7;street a b 9;").tree(), 12);
        due("the least of side by side", town("corner a;corner b;street a b 99;street b a 1;street a b 2;").tree(), 1);
        due("the longest", town("corner a;corner b;corner c;street a b 99;street b c 99;").tree(), 198);
    }

    private void twins() {
        terms("TWINS: the two WORDS whose GLOWS differ least, of all YOUNG ones not HOME, added, of alike ones the first; how much.");
        BlushLamps x = town("corner a;young p 10 0 a;young q 20 0 a;word u 10;word v 30;word w 50;word x 32;"
            + "glows=if age<20 then heat else if heat<31 then 10 else 40;leaves=which;");
        // p differs by 2 of v and x, and by 18 of w and x; q by 30 of v and x, and not of w and x nor of u and v
        due("of p and q", x.twins(0), 23);
        due("of p and q", x.twins(1), 18);
        x.hours(1);
        due("q is HOME", x.twins(0), 13);
        due("q is HOME", x.twins(1), 2);
        due("of alike ones", town("corner a;young p 10 0 a;word u 1;word v 9;word w 5;word x 9;word y 5;").twins(0), 13);
        due("held to 99", town("corner a;young p 10 0 a;word u 1;word v 60;word w 90;glows=heat*2;").twins(1), 0);
        // more for one and less for the other does not make up for it
        due("added", town("corner a;young p 10 0 a;young q 20 0 a;word u 10;word v 30;glows=if age<20 then heat else 90-heat;").twins(1), 40);
        promise(30, "TWINS: what 0 the two (10 * the lesser + the other), 1 how much; -2: there are not two.");
        due("the last two", town("corner a;young p 10 0 a;word u 1;word v 10;word w 30;word x 70;word y 72;").twins(0), 34);
        due("one", town("corner a;young p 10 0 a;word u 1;").twins(0), NOTHING);
        due("one", town("corner a;young p 10 0 a;word u 1;").twins(1), NOTHING);
        due("none", new BlushLamps().twins(0), NOTHING);
        due("two, nobody", town("word u 1;word v 9;").twins(0), 1);
        due("two, nobody", town("word u 1;word v 9;").twins(1), 0);
        due("all HOME", allHome().twins(0), 1);
        promise(30, "NONE for others.");
        noSuch("what", 2, x::twins);
        due("not two, another what", new BlushLamps().twins(2), NONE);
    }

    private void brightest() {
        terms("BRIGHTEST: the CORNER of most LIGHT, of alike ones the first; how much.");
        BlushLamps x = later();
        due("b", x.brightest(0), 1);
        due("b", x.brightest(1), 20);
        x.rouge(2);
        due("of alike ones", x.brightest(0), 1);
        x.rouge(2);
        due("c", x.brightest(0), 2);
        due("c", x.brightest(1), 40);
        promise(31, "BRIGHTEST: what 0 which, 1 how much; -2: no CORNERS.");
        due("all dark", allHome().brightest(0), 0);
        due("all dark", allHome().brightest(1), 0);
        due("nobody", net(2, "", "").brightest(0), 0);
        due("no CORNERS", new BlushLamps().brightest(0), NOTHING);
        due("no CORNERS", new BlushLamps().brightest(1), NOTHING);
        promise(31, "NONE for others.");
        noSuch("what", 2, x::brightest);
        due("no CORNERS, another what", new BlushLamps().brightest(2), NONE);
    }

    private static final String DRAUGHTY = "corner a;corner b;corner c;street a b 60;street b c 30;young p 10 0 a;young q 10 0 b;young r 10 0 c;"
        + "word w 60;glows=heat;cools=hour/12+told+since/20;leaves=if which<2 then 0 else since-30;draught 20;seed 77;";

    private void inHours() {
        terms("IN n HOURS (0 .. 72; with DRAUGHTS): how a YOUNG one glows; which STREETS are LIT; who is HOME.");
        BlushLamps x = town(DRAUGHTY);
        for (int y = 0; y < 3; y++) {
            rouge(x, y, 4);
        }
        x.hours(5);
        x.say(0, 0);
        x.say(0, 0);
        int[] ns = {0, 1, 2, 3, 5, 8, 13, 21, 25, 26, 27, 40, 71, 72};
        for (int n : ns) {
            int[] glow = {x.glowIn(0, n), x.glowIn(1, n), x.glowIn(2, n)};
            int lit = x.then(n, 0);
            int home = x.then(n, 1);
            x.hours(n);
            for (int y = 0; y < 3; y++) {
                due("glowIn(" + y + ", " + n + ")", glow[y], x.young(y, 3));
            }
            due("then(" + n + ", 0)", lit, x.count(6));
            due("then(" + n + ", 1)", home, x.count(7));
            if (n > 0) {
                x.undo();
            }
        }
        inHoursOfAFullTown();
        promise(32, "IN n HOURS how a YOUNG one glows; NONE: no such ones.");
        due("now", x.glowIn(0, 0), x.young(0, 3));
        due("HOME then", x.glowIn(2, 72), 0);
        BlushLamps y = later();
        due("HOME", y.glowIn(0, 0), 0);
        noSuch("young", 3, i -> y.glowIn(i, 5));
        noSuch("n", 73, n -> y.glowIn(1, n));
        due("none there", new BlushLamps().glowIn(0, 0), NONE);
    }

    private void inHoursOfAFullTown() {
        StringBuilder text = new StringBuilder("corner a;corner b;corner c;street b c 30;");
        for (int y = 0; y < 6; y++) {
            text.append("young y").append((char) ('a' + y)).append(" 10 0 a;");
        }
        BlushLamps x = town(text + "word w 40;wears=0;cools=told*3+since;leaves=if which<5 then 0 else since-4;");
        x.hours(2);
        for (int y = 0; y < 6; y++) {
            x.say(y, 0);
        }
        x.hours(1);
        x.move(5, 1);
        // 40 less 3, then less 4, 5, 6, 7 of the sixth, who is HOME behind that
        int[] sixth = {37, 33, 28, 22, 15, 0};
        for (int n = 0; n < sixth.length; n++) {
            due("the sixth in " + n, x.glowIn(5, n), sixth[n]);
            due("HOME in " + n, x.then(n, 1), n < 5 ? 0 : 32);
        }
        due("the first in 5", x.glowIn(0, 5), 7);
        BlushLamps alone = town(text + "word w 40;cools=told*3+since;");
        alone.say(5, 0);
        alone.move(5, 1);
        due("by the sixth alone, LIT", alone.then(2, 0), 1);
        due("by the sixth alone, dark", alone.then(3, 0), 0);
        due("till when", alone.darkens(0), 3);
    }

    private void thenAsked() {
        promise(33, "IN n HOURS: what 0 which STREETS are LIT, 1 who is HOME (bits); NONE: no such ones.");
        BlushLamps x = town(TOWN);
        x.rouge(0);
        due("now, LIT", x.then(0, 0), 0b001);
        due("now, HOME", x.then(0, 1), 0);
        due("in 1, LIT", x.then(1, 0), 0);
        due("in 1, HOME", x.then(1, 1), 0b001);
        due("in 72, HOME", x.then(72, 1), 0b001);
        noSuch("n", 73, n -> x.then(n, 0));
        noSuch("what", 2, what -> x.then(5, what));
        BlushLamps none = new BlushLamps();
        due("none there", none.then(72, 0), 0);
        due("none there", none.then(72, 1), 0);
        due("none there, no such n", none.then(73, 0), NONE);
        due("none there, no such what", none.then(0, 2), NONE);
    }

    private void year() {
        terms("YEAR by s SEEDS (1 .. 20) from the text's SEED on: in how many of them a STREET is LIT in n HOURS (0 .. 72).");
        for (int seed : new int[] {0, 500, 9985, 9999}) {
            // any DRAUGHT is at one end or at the other, and what is left of 80 is too little then
            BlushLamps x = town("corner a;corner b;street a b 75;young p 10 0 a;young q 10 0 b;draught 12;seed " + seed + ";");
            rouge(x, 0, 2);
            rouge(x, 1, 2);
            due("n 0", x.year(0, 0, 1), 1);
            due("n 0", x.year(0, 0, 20), 20);
            for (int n : new int[] {1, 2, 5, 9, 72}) {
                int calm = 0;
                for (int s = 1; s <= 20; s++) {
                    calm += calmHours(seed + s - 1, 0) >= n ? 1 : 0;
                    due("SEED " + seed + ", n " + n + ", s " + s, x.year(0, n, s), calm);
                }
            }
            int later = Math.min(3, calmHours(seed, 0));
            x.hours(later);
            int calm = 0;
            for (int s = 0; s < 20; s++) {
                calm += calmHours(seed + s, later) >= 3 ? 1 : 0;
            }
            due("from a later hour on", x.year(0, 3, 20), calm);
        }
        promise(34, "YEAR; NONE: no such ones.");
        BlushLamps y = later();
        noSuch("street", 3, s -> y.year(s, 1, 1));
        noSuch("n", 73, n -> y.year(0, n, 1));
        for (int s : outside(21)) {
            due("s " + s, y.year(0, 1, s), NONE);
        }
        due("s 0", y.year(0, 1, 0), NONE);
        due("s 1", y.year(0, 1, 1), 1);
        due("s 20", y.year(0, 72, 20), 20);
        due("dark in all", y.year(2, 72, 20), 0);
        due("none there", new BlushLamps().year(0, 1, 1), NONE);
    }

    /** How many HOURS there are from this one on till the first DRAUGHT. */
    private static int calmHours(int seed, int from) {
        int h = from;
        while (h < from + 100 && !Lots.isLess(100, seed, 4 * h, 12)) {
            h++;
        }
        return h - from;
    }
}
