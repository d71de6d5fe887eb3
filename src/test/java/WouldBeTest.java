/** Promises 17 to 34: what would be. */
final class WouldBeTest {
    private static final Check CHECK = new Check("WouldBeTest");
    private static final int NONE = BlushLamps.NONE;
    private static final int NOTHING = -2;

    public static void main(String[] args) {
        darkens();
        best();
        bestOfMany();
        telling();
        keep();
        steps();
        round();
        safe();
        dark();
        bridges();
        gather();
        moves();
        cut();
        tree();
        twins();
        brightest();
        inHours();
        year();
        nothingHappens();
        CHECK.end();
    }

    private static void due(String call, int got, int want) {
        CHECK.due(call, got, want);
    }

    /** The square with q at b, who was told y twice and glows by 64. */
    private static BlushLamps square() {
        BlushLamps x = Check.town(TownTest.SQUARE);
        x.say(1, 2);
        x.say(1, 2);
        return x;
    }

    /** So many CORNERS (a, b, ..), these STREETS (as "ab", LONG 1 each), one at a who glows by 20 and lights a's. */
    private static BlushLamps net(int corners, String streets, String more) {
        StringBuilder text = new StringBuilder();
        for (int c = 0; c < corners; c++) {
            text.append("corner ").append((char) ('a' + c)).append(';');
        }
        for (int i = 0; i < streets.length(); i += 3) {
            text.append("street ").append(streets.charAt(i)).append(' ').append(streets.charAt(i + 1)).append(" 1;");
        }
        return Check.town(text + more);
    }

    private static void darkens() {
        BlushLamps x = square();
        due("darkens(0)", x.darkens(0), 28);
        due("darkens(1)", x.darkens(1), 23);
        due("darkens(2), not LIT now", x.darkens(2), 0);
        due("darkens(5)", x.darkens(5), NONE);
        due("darkens(-1)", x.darkens(-1), NONE);
        BlushLamps y = Check.town("corner a;corner b;street a b 20;young p 10 0 a;draught 100;leaves=since-98;");
        y.rouge(0);
        due("darkens(0) as p goes HOME, no DRAUGHTS", y.darkens(0), 100);
        BlushLamps z = Check.town("corner a;corner b;street a b 20;young p 10 0 a;draught 100;leaves=since-99;");
        z.rouge(0);
        due("darkens(0), not within 100", z.darkens(0), NOTHING);
    }

    private static void best() {
        BlushLamps x = square();
        due("best(NONE)", x.best(NONE), 3);
        due("best(0), who does not glow", x.best(0), 0);
        due("best(1)", x.best(1), 0);
        due("best(2)", x.best(2), 0);
        due("best(3)", x.best(3), NONE);
        due("best(-2)", x.best(-2), NONE);
        x.rouge(0);
        // q lights all three of c's STREETS, and p at a lights ab; no two CORNERS light cd and da and the others too
        due("best(NONE), two glow", x.best(NONE), 4);
        due("best(0)", x.best(0), 0);
        due("best(1)", x.best(1), 2);
        x.undo();
        due("best(NONE), undone", x.best(NONE), 3);
        x.hold(0);
        x.rouge(0);
        due("best(NONE), two glow", x.best(NONE), 4);
        x.restore(0);
        due("best(NONE), gone on from", x.best(NONE), 3);
        x.hours(72);
        due("best(NONE), all HOME", x.best(NONE), 0);
        due("best(1), HOME", x.best(1), NOTHING);
        due("best(3), all HOME", x.best(3), NONE);
        BlushLamps y = square();
        due("best(NONE)", y.best(NONE), 3);
        due("read()", Check.read(y, "corner a;young p 10 0 a;"), 0);
        due("best(NONE) of a new text", y.best(NONE), 0);
    }

    private static void bestOfMany() {
        // a path a-b-c of LONG 40 and 20: q's 40 and p's 20 are enough together at b, or q's alone
        BlushLamps x = Check.town("corner a;corner b;corner c;street b c 40;street a b 20;young p 10 0 c;young q 10 0 c;word w 40;");
        x.rouge(0);
        x.rouge(1);
        x.rouge(1);
        due("best(NONE)", x.best(NONE), 2);
        due("best(0), the lowest for the first", x.best(0), 0);
        due("best(1)", x.best(1), 1);
        BlushLamps y = Check.town("corner a;corner b;corner c;street b c 20;street a c 40;young p 10 0 a;young q 10 0 a;leaves=0-which;");
        y.rouge(0);
        y.rouge(1);
        due("best(NONE), alike", y.best(NONE), 2);
        due("best(0)", y.best(0), 0);
        due("best(1)", y.best(1), 2);
        BlushLamps few = Check.town("corner a;corner b;corner c;corner d;street a b 2;street c d 1;young p 10 0 a;young q 10 0 a;"
            + "word v 1;word w 2;");
        few.say(0, 0);
        due("best(NONE), by 1", few.best(NONE), 1);
        due("best(0), by 1", few.best(0), 2);
        few.say(1, 1);
        due("best(NONE), a little", few.best(NONE), 2);
        due("best(0), a little", few.best(0), 2);
        due("best(1), a little", few.best(1), 0);
        BlushLamps six = net(7, "ab bc cd de ef fg ga ac ce eg", "young p 10 0 a;young q 10 0 a;young r 10 0 a;"
            + "young s 10 0 a;young t 10 0 a;young u 10 0 a;");
        for (int y6 = 0; y6 < 6; y6++) {
            six.rouge(y6);
        }
        // each STREET has an end among a, c, e and f, and no three CORNERS (nor a lower fourth) do for all
        due("best(NONE) of six", six.best(NONE), 10);
        int[] where = {0, 0, 0, 2, 4, 5};
        for (int y6 = 0; y6 < 6; y6++) {
            due("best(" + y6 + ") of six", six.best(y6), where[y6]);
        }
    }

    private static void telling() {
        BlushLamps x = square();
        due("telling(2, 0)", x.telling(2, 0), 2);
        due("telling(2, 1)", x.telling(2, 1), 34);
        due("telling(1, 1), with what they glow by now", x.telling(1, 1), 92);
        due("telling(0, 0), the first", Check.town("corner a;young p 10 0 a;word v 9;word w 5;word x 9;").telling(0, 0), 0);
        due("telling(0, 2)", x.telling(0, 2), NONE);
        due("telling(0, -1)", x.telling(0, -1), NONE);
        due("telling(3, 0)", x.telling(3, 0), NONE);
        due("telling(-1, 0)", x.telling(-1, 0), NONE);
        x.hours(72);
        due("telling(0, 0), HOME", x.telling(0, 0), NOTHING);
        due("telling(0, 2), HOME", x.telling(0, 2), NONE);
        due("telling(0, 0), no WORDS", Check.town("corner a;young p 10 0 a;").telling(0, 0), NOTHING);
        BlushLamps y = Check.town("corner a;young p 10 0 a;word v 9;word w 50;word x 90;");
        for (int i = 0; i < 48; i++) {
            y.rouge(0);
        }
        due("telling(0, 0), 999 at most, the first", y.telling(0, 0), 1);
        due("telling(0, 1)", y.telling(0, 1), 999);
    }

    private static void keep() {
        BlushLamps x = square();
        due("keep()", x.keep(), 2);
        BlushLamps y = Check.town("corner a;young p 10 0 a;young q 10 0 a;word v 40;word w 50;word x 60;"
            + "wears=if which<1 then (heat-20)*2 else 0;leaves=if which<1 then hour else 0-1;");
        // p: 40 - 40, 50 - 60, 60 - 80
        due("keep() of the first YOUNG one", y.keep(), 0);
        y.hours(2);
        due("p is HOME", y.count(7), 1);
        due("keep() of the second", y.keep(), 2);
        due("keep(), less than 0", Check.town("corner a;young p 10 0 a;word v 3;word w 5;word x 5;wears=50;").keep(), 1);
        due("keep(), no WORDS", Check.town("corner a;young p 10 0 a;").keep(), NOTHING);
        due("keep(), nobody", Check.town("corner a;word w 1;").keep(), NOTHING);
        x.hours(72);
        due("keep(), all HOME", x.keep(), NOTHING);
    }

    private static void steps() {
        BlushLamps x = net(6, "ab bc cd de", "");
        due("steps(0, 0)", x.steps(0, 0), 0);
        due("steps(0, 4)", x.steps(0, 4), 4);
        due("steps(4, 0)", x.steps(4, 0), 4);
        due("steps(3, 1)", x.steps(3, 1), 2);
        due("steps(0, 5)", x.steps(0, 5), NOTHING);
        due("steps(5, 5)", x.steps(5, 5), 0);
        due("steps(0, 6)", x.steps(0, 6), NONE);
        due("steps(-1, 0)", x.steps(-1, 0), NONE);
        due("steps(0, 2) of the square", square().steps(0, 2), 1);
        BlushLamps y = net(7, "fg ef de cd bc ab", "");
        due("steps(0, 6)", y.steps(0, 6), 6);
        due("steps(6, 0)", y.steps(6, 0), 6);
    }

    private static void round() {
        due("round() of the square", square().round(), 2);
        due("round(), no CORNERS", new BlushLamps().round(), NOTHING);
        due("round(), nobody", net(2, "", "").round(), 0);
        due("round(), there already", net(2, "", "young p 10 0 a;").round(), 0);
        due("round(), no way", net(2, "", "young p 10 0 b;").round(), NOTHING);
        // a star around a, three ends to be passed: 1 + 2 + 2
        BlushLamps star = net(5, "ab ac ad ae", "young p 10 0 b;young q 10 0 c;young r 10 0 d;young s 10 0 d;");
        due("round() of a star", star.round(), 5);
        // a path with the LIGHTER in its midst: the shorter side first
        BlushLamps path = net(7, "ab bc cd de ef fg", "lighter c;young p 10 0 a;young q 10 0 g;");
        due("round() of a path", path.round(), 2 + 6);
        path.move(0, 2);
        due("round(), one side", path.round(), 4);
    }

    private static void safe() {
        BlushLamps x = square();
        due("safe(0)", x.safe(0), 7);
        due("safe(3)", x.safe(3), 8);
        due("safe(4)", x.safe(4), 16);
        due("safe(5)", x.safe(5), NONE);
        due("safe(-1)", x.safe(-1), NONE);
    }

    private static void dark() {
        BlushLamps x = square();
        due("dark(0, 3)", x.dark(0, 3), 1);
        due("dark(0, 2), by b", x.dark(0, 2), 0);
        due("dark(3, 3)", x.dark(3, 3), 0);
        due("dark(0, 4)", x.dark(0, 4), NOTHING);
        due("dark(0, 5)", x.dark(0, 5), NONE);
        due("dark(-1, 0)", x.dark(-1, 0), NONE);
        // three LIT ones around rather than two dark ones straight
        BlushLamps y = net(6, "ab bc ad de ef fc", "young p 10 0 d;young q 10 0 f;");
        y.rouge(0);
        y.rouge(1);
        due("dark(0, 2), the long way", y.dark(0, 2), 0);
        due("dark(1, 2)", y.dark(1, 2), 1);
    }

    private static void bridges() {
        BlushLamps x = square();
        due("bridges()", x.bridges(), 3);
        BlushLamps y = net(5, "ab bc ca cd ab de", "young p 10 0 a;young q 10 0 c;");
        due("bridges(), none LIT", y.bridges(), 0);
        y.rouge(0);
        due("bridges(), ca by itself", y.bridges(), 0b000100);
        y.rouge(1);
        due("bridges(), a round and an end", y.bridges(), 0b001000);
        due("bridges(), no STREETS", new BlushLamps().bridges(), 0);
    }

    private static void gather() {
        BlushLamps x = square();
        due("gather(0)", x.gather(0), 0);
        due("gather(1)", x.gather(1), 2);
        due("gather(2)", x.gather(2), NONE);
        due("gather(-1)", x.gather(-1), NONE);
        x.move(0, 4);
        due("gather(0), no way for p", x.gather(0), NOTHING);
        due("gather(1), no way for p", x.gather(1), NOTHING);
        x.hours(72);
        due("gather(0), all HOME", x.gather(0), 0);
        due("gather(1), all HOME", x.gather(1), 0);
        due("gather(0), no CORNERS", new BlushLamps().gather(0), NOTHING);
        due("gather(2), no CORNERS", new BlushLamps().gather(2), NONE);
        BlushLamps path = net(4, "ab bc cd", "young p 10 0 a;young q 10 0 d;young r 10 0 d;young s 10 0 c;");
        due("gather(0) of a path, each counts", path.gather(0), 2);
        due("gather(1) of a path", path.gather(1), 4);
    }

    private static void moves() {
        BlushLamps x = square();
        due("moves(0, 0), LIT", x.moves(0, 0), 0);
        due("moves(0, 1), LIT", x.moves(0, 1), 0);
        due("moves(2, 0)", x.moves(2, 0), 1);
        due("moves(2, 1)", x.moves(2, 1), 2);
        due("moves(2, 2)", x.moves(2, 2), NONE);
        due("moves(2, -1)", x.moves(2, -1), NONE);
        due("moves(5, 0)", x.moves(5, 0), NONE);
        due("moves(-1, 0)", x.moves(-1, 0), NONE);
        x.hours(72);
        due("moves(2, 0), all HOME", x.moves(2, 0), NOTHING);
        due("moves(2, 1), all HOME", x.moves(2, 1), NOTHING);
        BlushLamps y = Check.town("corner a;corner b;corner c;street a b 60;young o 10 0 a;young p 10 0 c;young q 10 0 c;"
            + "young r 10 0 c;young s 10 0 c;");
        for (int i = 0; i < 5; i++) {
            y.rouge(i);
        }
        y.rouge(3);
        // o is there with 20; 40 more: r alone
        due("moves(0, 0)", y.moves(0, 0), 1);
        due("moves(0, 1)", y.moves(0, 1), 8);
        y.undo();
        due("moves(0, 0), two", y.moves(0, 0), 2);
        due("moves(0, 1), the least bits", y.moves(0, 1), 6);
        y.move(0, 2);
        BlushLamps z = Check.town("corner a;corner b;corner c;street a b 21;young p 10 0 c;young q 10 0 c;");
        z.rouge(0);
        due("moves(0, 0), one too little", z.moves(0, 0), NOTHING);
        z.rouge(1);
        due("moves(0, 0), all", z.moves(0, 0), 2);
        due("moves(0, 0), three", y.moves(0, 0), 3);
        due("moves(0, 1), three", y.moves(0, 1), 7);
    }

    private static void cut() {
        BlushLamps x = square();
        due("cut(0, 2)", x.cut(0, 2), 1);
        due("cut(0, 3), not by LIT ones", x.cut(0, 3), 0);
        due("cut(0, 0)", x.cut(0, 0), NONE);
        due("cut(0, 5)", x.cut(0, 5), NONE);
        due("cut(-1, 0)", x.cut(-1, 0), NONE);
        BlushLamps y = net(5, "ab ab ac cb ad db de", "young p 10 0 a;young q 10 0 b;");
        y.rouge(0);
        y.rouge(1);
        due("cut(0, 1)", y.cut(0, 1), 4);
        due("cut(2, 3)", y.cut(2, 3), 2);
        due("cut(1, 4), dark", y.cut(1, 4), 0);
    }

    private static void tree() {
        due("tree() of the square, e by itself", square().tree(), NOTHING);
        due("tree(), no CORNERS", new BlushLamps().tree(), NOTHING);
        due("tree(), one CORNER", net(1, "", "").tree(), 0);
        due("tree(), two CORNERS apart", net(2, "", "").tree(), NOTHING);
        BlushLamps x = Check.town("corner a;corner b;corner c;corner d;street a b 9;street a b 4;street b c 5;street a c 6;street c d 50;"
            + "street d a 49;");
        due("tree()", x.tree(), 4 + 5 + 49);
        BlushLamps y = Check.town("corner a;corner b;corner c;corner d;corner e;street d e 7;street c e 3;street a e 1;street b d 2;street a b 99;"
            + "street a c 3;");
        due("tree()", y.tree(), 7 + 3 + 1 + 2);
        due("tree(), two parts", net(4, "ab ab cd cd", "").tree(), NOTHING);
    }

    private static void twins() {
        BlushLamps x = square();
        due("twins(0)", x.twins(0), 12);
        due("twins(1)", x.twins(1), 15);
        due("twins(2)", x.twins(2), NONE);
        due("twins(-1)", x.twins(-1), NONE);
        due("twins(0), one WORD", Check.town("word w 1;").twins(0), NOTHING);
        due("twins(2), one WORD", Check.town("word w 1;").twins(2), NONE);
        due("twins(0), nobody", Check.town("word w 1;word v 9;word u 9;").twins(0), 1);
        due("twins(1), nobody", Check.town("word w 1;word v 9;word u 9;").twins(1), 0);
        // p by HEAT, q by 99 - HEAT: what is more for one is less for the other, and does not make up for it
        BlushLamps y = Check.town("corner a;young p 10 0 a;young q 10 0 a;word u 10;word v 40;word w 60;word x 42;"
            + "glows=if which<1 then heat else 99-heat;");
        due("twins(0)", y.twins(0), 13);
        due("twins(1)", y.twins(1), 4);
        // held to 0 .. 99, all are alike
        due("twins(1), held", Check.town("corner a;young p 10 0 a;word v 1;word w 9;glows=heat+99;").twins(1), 0);
        x.hours(72);
        due("twins(0), all HOME", x.twins(0), 1);
        due("twins(1), all HOME", x.twins(1), 0);
    }

    private static void brightest() {
        BlushLamps x = square();
        due("brightest(0)", x.brightest(0), 1);
        due("brightest(1)", x.brightest(1), 64);
        due("brightest(2)", x.brightest(2), NONE);
        due("brightest(-1)", x.brightest(-1), NONE);
        due("brightest(0), no CORNERS", new BlushLamps().brightest(0), NOTHING);
        due("brightest(2), no CORNERS", new BlushLamps().brightest(2), NONE);
        BlushLamps y = net(3, "", "young p 10 0 b;young q 10 0 c;");
        due("brightest(0), all dark", y.brightest(0), 0);
        y.rouge(0);
        y.rouge(1);
        due("brightest(0), alike", y.brightest(0), 1);
    }

    private static void inHours() {
        BlushLamps x = square();
        due("glowIn(1, 0)", x.glowIn(1, 0), 64);
        due("glowIn(1, 5)", x.glowIn(1, 5), 54);
        due("glowIn(1, 72)", x.glowIn(1, 72), 0);
        due("glowIn(1, 73)", x.glowIn(1, 73), NONE);
        due("glowIn(1, -1)", x.glowIn(1, -1), NONE);
        due("glowIn(3, 0)", x.glowIn(3, 0), NONE);
        due("glowIn(-1, 0)", x.glowIn(-1, 0), NONE);
        due("then(0, 0)", x.then(0, 0), 3);
        due("then(22, 0)", x.then(22, 0), 3);
        due("then(23, 0)", x.then(23, 0), 1);
        due("then(28, 0)", x.then(28, 0), 0);
        due("then(30, 1)", x.then(30, 1), 0);
        due("then(31, 1)", x.then(31, 1), 7);
        due("then(73, 0)", x.then(73, 0), NONE);
        due("then(-1, 0)", x.then(-1, 0), NONE);
        due("then(0, 2)", x.then(0, 2), NONE);
        due("then(0, -1)", x.then(0, -1), NONE);
        BlushLamps y = Check.town("corner a;corner b;corner c;street a b 20;young p 10 0 a;young q 10 0 b;draught 50;seed 7;");
        y.rouge(0);
        y.rouge(1);
        // DRAUGHTS at 1, 0, -, -, 1, 1, -, 1
        due("glowIn(1, 1), a DRAUGHT", y.glowIn(1, 1), 10);
        due("glowIn(0, 1)", y.glowIn(0, 1), 20);
        due("glowIn(0, 2)", y.glowIn(0, 2), 10);
        due("glowIn(1, 8)", y.glowIn(1, 8), 1);
        due("then(4, 0)", y.then(4, 0), 1);
        due("then(5, 0)", y.then(5, 0), 0);
    }

    private static void year() {
        BlushLamps x = Check.town("corner a;corner b;corner c;street a b 70;young p 10 0 a;young q 10 0 b;draught 15;seed 7;");
        for (int i = 0; i < 4; i++) {
            x.rouge(i % 2);
        }
        // in the first hour a DRAUGHT at b by 7 and by 9, none by 8
        due("year(0, 0, 3)", x.year(0, 0, 3), 3);
        due("year(0, 1, 1)", x.year(0, 1, 1), 0);
        due("year(0, 1, 2)", x.year(0, 1, 2), 1);
        due("year(0, 1, 3)", x.year(0, 1, 3), 1);
        due("year(0, 1, 0)", x.year(0, 1, 0), NONE);
        due("year(0, 1, 21)", x.year(0, 1, 21), NONE);
        due("year(0, 73, 1)", x.year(0, 73, 1), NONE);
        due("year(0, -1, 1)", x.year(0, -1, 1), NONE);
        due("year(1, 1, 1)", x.year(1, 1, 1), NONE);
        due("year(-1, 1, 1)", x.year(-1, 1, 1), NONE);
        due("year(0, 27, 20), no DRAUGHTS", square().year(0, 27, 20), 20);
        due("year(0, 28, 20), no DRAUGHTS", square().year(0, 28, 20), 0);
    }

    private static void nothingHappens() {
        BlushLamps x = square();
        int[] before = new int[21];
        for (int what = 0; what < 21; what++) {
            before[what] = x.count(what);
        }
        x.darkens(0);
        x.best(NONE);
        x.telling(1, 1);
        x.keep();
        x.steps(0, 1);
        x.round();
        x.safe(0);
        x.dark(0, 1);
        x.bridges();
        x.gather(1);
        x.moves(2, 1);
        x.cut(0, 1);
        x.tree();
        x.twins(1);
        x.brightest(1);
        x.glowIn(0, 72);
        x.then(72, 0);
        x.year(0, 72, 20);
        x.look(0, 5);
        x.words(0, 0);
        for (int what = 0; what < 21; what++) {
            due("count(" + what + ") behind all questions", x.count(what), before[what]);
        }
    }
}
