/** Promises 35 to 41: what is TOLD, what is held, and the counts. */
final class ToldTest {
    private static final Check CHECK = new Check("ToldTest");
    private static final int NONE = BlushLamps.NONE;
    private static final int NOTHING = -2;

    public static void main(String[] args) {
        tell();
        forget();
        words();
        look();
        hold();
        restore();
        count();
        CHECK.end();
    }

    private static void due(String call, int got, int want) {
        CHECK.due(call, got, want);
    }

    private static void tell() {
        BlushLamps x = Check.town(TownTest.SQUARE);
        due("tell(3, ..)", x.tell(3, 5, true), NONE);
        due("tell(-1, ..)", x.tell(-1, 5, true), NONE);
        due("tell(0, -1)", x.tell(0, -1, true), NONE);
        due("tell(0, 1000)", x.tell(0, 1000, true), NONE);
        due("count(10)", x.count(10), 0);
        due("tell(0, 0)", x.tell(0, 0, true), 0);
        due("tell(0, 999)", x.tell(0, 999, false), 1);
        for (int i = 2; i < 20; i++) {
            due("tell", x.tell(2, i, true), i);
        }
        due("a 21st", x.tell(2, 5, true), NONE);
        due("count(10)", x.count(10), 20);
        due("count(9), no thing done", x.count(9), 0);
        due("words(20, 1)", x.words(20, 1), 7);
        x.forget();
        x.hours(72);
        due("tell of one HOME", x.tell(0, 5, true), NONE);
        due("count(10)", x.count(10), 0);
    }

    private static void forget() {
        BlushLamps x = Check.town(TownTest.SQUARE);
        due("forget() of nothing", x.forget(), 0);
        x.tell(0, 15, true);
        x.tell(0, 15, false);
        due("forget()", x.forget(), 2);
        due("count(10)", x.count(10), 0);
        due("words(0, 0)", x.words(0, 0), 3);
        due("words(1, 0)", x.words(1, 0), NONE);
        due("tell anew", x.tell(0, 21, true), 0);
        due("words(1, 1)", x.words(1, 1), 6);
    }

    private static void words() {
        BlushLamps x = Check.town(TownTest.SQUARE);
        // p would glow by 11, 21, 31, q by 13, 23, 33, r by 19, 29, 39
        x.tell(0, 21, true);
        x.tell(2, 30, false);
        x.tell(1, 13, false);
        due("words(0, 0)", x.words(0, 0), 3);
        due("words(0, 1)", x.words(0, 1), 7);
        due("words(1, 0)", x.words(1, 0), 2);
        due("words(1, 1)", x.words(1, 1), 6);
        due("words(2, 0)", x.words(2, 0), 1);
        due("words(2, 1)", x.words(2, 1), 2);
        due("words(3, 0)", x.words(3, 0), 0);
        due("words(3, 1)", x.words(3, 1), 0);
        due("words(4, 0)", x.words(4, 0), NONE);
        due("words(-1, 0)", x.words(-1, 0), NONE);
        due("words(0, 2)", x.words(0, 2), NONE);
        due("words(0, -1)", x.words(0, -1), NONE);
        x.rouge(0);
        due("words(1, 1), as p glows by 20 more now", x.words(1, 1), 7);
        x.undo();
        due("words(1, 1), undone", x.words(1, 1), 6);
        x.hours(72);
        due("words(1, 1), p gone HOME since", x.words(1, 1), 0);
        BlushLamps y = Check.town(TownTest.SQUARE);
        y.tell(0, 0, true);
        y.tell(0, 21, false);
        y.hours(72);
        due("words(2, 1), p gone HOME since: by 0", y.words(2, 1), 7);
        BlushLamps u = Check.town(TownTest.SQUARE);
        u.tell(0, 1, true);
        u.hours(72);
        due("words(1, 1), p gone HOME since: by 0", u.words(1, 1), 0);
        BlushLamps z = Check.town("corner a;young p 10 0 a;word w 50;word v 5;");
        for (int i = 0; i < 49; i++) {
            z.rouge(0);
        }
        z.tell(0, 999, true);
        due("words(1, 1), 999 at most", z.words(1, 1), 1);
    }

    private static void look() {
        BlushLamps x = Check.town(TownTest.SQUARE);
        due("look(0, 30), each leaves 2", x.look(0, 30), 0);
        due("look(0, 39), r alone parts them", x.look(0, 39), 2);
        due("look(0, 33)", x.look(0, 33), 1);
        due("look(0, 0)", x.look(0, 0), 0);
        due("look(0, 999)", x.look(0, 999), 0);
        due("look(0, 1000)", x.look(0, 1000), NONE);
        due("look(0, -1)", x.look(0, -1), NONE);
        due("look(1, 5)", x.look(1, 5), NONE);
        due("look(-1, 5)", x.look(-1, 5), NONE);
        x.tell(0, 15, true);
        x.tell(0, 15, false);
        due("look(1, 29), p parts x and y by it", x.look(1, 29), 0);
        due("look(1, 22)", x.look(1, 22), 0);
        due("look(1, 19)", x.look(1, 19), 0);
        due("look(1, 34)", x.look(1, 34), 2);
        due("look(2, 22), none is left", x.look(2, 22), NOTHING);
        x.forget();
        x.hours(72);
        due("look(0, 22), all HOME", x.look(0, 22), NOTHING);
        due("look(0, 1000), all HOME", x.look(0, 1000), NONE);
        due("look(0, 22), no WORDS", Check.town("corner a;young p 10 0 a;").look(0, 22), NOTHING);
        BlushLamps y = Check.town("corner a;young p 10 0 a;young q 10 0 a;word w 10;word v 20;leaves=1-which;");
        y.hours(1);
        due("look(0, 15), the first is HOME", y.look(0, 15), 1);
        BlushLamps z = Check.town("corner a;young p 10 0 a;young q 10 9 a;word u 40;word v 30;word w 20;word x 10;word y 5;"
            + "glows=if temper<1 then heat else if heat<40 then 0 else 50;");
        due("look(0, 0), all are left", z.look(0, 0), 0);
        due("look(0, 25), three at worst, four by q", z.look(0, 25), 0);
        due("look(0, 45), five by p, four by q", z.look(0, 45), 1);
    }

    private static void hold() {
        BlushLamps x = Check.town(TownTest.SQUARE);
        CHECK.due("hold(3)", x.hold(3), false);
        CHECK.due("hold(-1)", x.hold(-1), false);
        due("count(11)", x.count(11), 0);
        CHECK.due("hold(2)", x.hold(2), true);
        CHECK.due("hold(0)", x.hold(0), true);
        CHECK.due("hold(2) again", x.hold(2), true);
        due("count(11)", x.count(11), 2);
        due("count(9), no thing done", x.count(9), 0);
    }

    private static void restore() {
        BlushLamps x = Check.town(TownTest.SQUARE);
        CHECK.due("restore(0), nothing held", x.restore(0), false);
        CHECK.due("restore(3)", x.restore(3), false);
        CHECK.due("restore(-1)", x.restore(-1), false);
        x.say(1, 2);
        x.hold(0);
        due("count(9) behind hold", x.count(9), 1);
        x.rouge(0);
        x.move(2, 4);
        x.step(0);
        x.hold(1);
        x.hours(50);
        x.tell(0, 5, true);
        due("tell of one HOME", x.count(10), 0);
        CHECK.due("restore(2), nothing held", x.restore(2), false);
        due("count(9), nothing happened", x.count(9), 5);
        CHECK.due("restore(0)", x.restore(0), true);
        due("count(4)", x.count(4), 0);
        due("count(5)", x.count(5), 1);
        due("count(9), nothing can be undone", x.count(9), 0);
        CHECK.due("undo()", x.undo(), false);
        due("young(1, 3)", x.young(1, 3), 33);
        due("young(1, 5)", x.young(1, 5), 1);
        due("young(0, 7)", x.young(0, 7), 0);
        due("young(2, 2)", x.young(2, 2), 2);
        due("word(2, 0)", x.word(2, 0), 28);
        due("word(2, 1)", x.word(2, 1), 1);
        due("count(19)", x.count(19), 0);
        x.tell(1, 40, true);
        Check.feed(x, "seed 1;");
        CHECK.due("restore(1)", x.restore(1), true);
        due("count(10), what is TOLD stays", x.count(10), 1);
        due("count(8), the tape stays", x.count(8), 7);
        due("count(4)", x.count(4), 1);
        due("count(5)", x.count(5), 0);
        due("young(0, 7)", x.young(0, 7), 1);
        due("young(0, 3)", x.young(0, 3), 19);
        due("young(2, 2)", x.young(2, 2), 4);
        x.hours(9);
        CHECK.due("restore(1), it stays there", x.restore(1), true);
        due("count(4)", x.count(4), 1);
        due("count(11)", x.count(11), 2);
    }

    private static void count() {
        BlushLamps x = Check.town(TownTest.SQUARE);
        x.say(1, 2);
        x.say(1, 2);
        x.rouge(2);
        x.tell(0, 4, true);
        x.hold(1);
        Check.feed(x, "young");
        int[] all = {5, 5, 3, 3, 0, 1, 0b00011, 0, 5, 3, 1, 1, 0, 84, 55, 7, 2, 2, 4, 0, 10 + 40 + 5, NONE};
        for (int what = 0; what < all.length; what++) {
            due("count(" + what + ")", x.count(what), all[what]);
        }
        due("count(-1)", x.count(-1), NONE);
        due("count(min)", x.count(Integer.MIN_VALUE), NONE);
        x.hours(31);
        int[] later = {5, 5, 3, 3, 31, 1, 0, 7, 5, 4, 1, 1, 0, 0, 55, 0, 2, 0, 4, 3, 125, NONE};
        for (int what = 0; what < later.length; what++) {
            due("count(" + what + ") later", x.count(what), later[what]);
        }
    }
}
