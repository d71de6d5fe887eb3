/** Promises 1 to 5: a new object, the tape, and the FAULTS of a text. */
final class ReadTest {
    private static final Check CHECK = new Check("ReadTest");
    private static final int SYNTAX = 1;
    private static final int ROOM = 2;
    private static final int TWICE = 3;
    private static final int NAME = 4;
    private static final int WRONG = 5;

    public static void main(String[] args) {
        newObject();
        feed();
        back();
        fine();
        syntax();
        room();
        tokensRoom();
        names();
        numbers();
        whichFaultFirst();
        aFaultChangesNothing();
        aTextBeginsAnew();
        laterTellsHold();
        CHECK.end();
    }

    private static void fault(String text, int number, int place) {
        BlushLamps x = new BlushLamps();
        CHECK.due("place() of a new object", x.place(), BlushLamps.NONE);
        String shown = text.length() > 90 ? text.substring(0, 90) + ".." : text;
        CHECK.due("read() of '" + shown + "'", Check.read(x, text), number);
        CHECK.due("place() of '" + shown + "'", x.place(), place);
        CHECK.due("count(8) behind read()", x.count(8), 0);
    }

    private static void fine(String text) {
        fault(text, 0, BlushLamps.NONE);
    }

    private static void newObject() {
        BlushLamps x = new BlushLamps();
        int[] empty = {0, 0, 0, 0, 0, -2, 0, 0, 0, 0, 0, 0, 0, 0, 0, 0, 0, 0, 0, 0, 0, -1};
        for (int what = 0; what < empty.length; what++) {
            CHECK.due("count(" + what + ") of a new object", x.count(what), empty[what]);
        }
        CHECK.due("count(-1)", x.count(-1), BlushLamps.NONE);
        CHECK.due("corner(0, 0)", x.corner(0, 0), BlushLamps.NONE);
        CHECK.due("young(0, 0)", x.young(0, 0), BlushLamps.NONE);
        CHECK.due("word(0, 0)", x.word(0, 0), BlushLamps.NONE);
        CHECK.due("street(0, 0)", x.street(0, 0), BlushLamps.NONE);
    }

    private static void feed() {
        BlushLamps x = new BlushLamps();
        for (int i = 1; i <= 100; i++) {
            CHECK.due("feed " + i, x.feed(0x20202020, 0x20202020, 0x20202020, 0x20202020, 0x20202020), 20 * i);
        }
        CHECK.due("feed 101", x.feed(0, 0, 0, 0, 0), BlushLamps.NONE);
        CHECK.due("count(8)", x.count(8), 2000);
        CHECK.due("back(19)", x.back(19), 1981);
        CHECK.due("feed of 20 to 1981", x.feed(0, 0, 0, 0, 0), BlushLamps.NONE);
        CHECK.due("back(1)", x.back(1), 1980);
        CHECK.due("feed of 20 to 1980", x.feed(0x20202020, 0x20202020, 0x20202020, 0x20202020, 0x20202078), 2000);
        CHECK.due("read()", x.read(), SYNTAX);
        CHECK.due("place() of the last byte", x.place(), 1999);
        // "word" "  ab" "cdef" "gh 7" ";   ": the highest byte comes first, a's ahead of b's
        CHECK.due("feed", x.feed(0x776f7264, 0x20206162, 0x63646566, 0x67682037, 0x3b202020), 20);
        CHECK.due("read()", x.read(), 0);
        CHECK.due("count(3)", x.count(3), 1);
        CHECK.due("word(0, 0)", x.word(0, 0), 7);
    }

    private static void back() {
        BlushLamps x = new BlushLamps();
        CHECK.due("back(0) of an empty tape", x.back(0), 0);
        CHECK.due("back(1) of an empty tape", x.back(1), BlushLamps.NONE);
        Check.feed(x, "seed 1;seed 2;seed 3!");
        CHECK.due("back(-1)", x.back(-1), BlushLamps.NONE);
        CHECK.due("back(22)", x.back(22), BlushLamps.NONE);
        CHECK.due("back(max)", x.back(Integer.MAX_VALUE), BlushLamps.NONE);
        CHECK.due("back(min)", x.back(Integer.MIN_VALUE), BlushLamps.NONE);
        CHECK.due("count(8)", x.count(8), 21);
        CHECK.due("back(0)", x.back(0), 21);
        CHECK.due("back(7)", x.back(7), 14);
        CHECK.due("read()", x.read(), 0);
        Check.feed(x, "!!!");
        CHECK.due("back(3)", x.back(3), 0);
        CHECK.due("read()", x.read(), 0);
    }

    private static void fine() {
        fine("");
        fine(" \t\r\n");
        fine("corner abcdefgh;");
        fine("corner\ta\r;\ncorner b;street a b 1;street b a 99;");
        fine("seed9999;seed0;seed 0012;draught100;draught 0;");
        fine("corner a;young p10 0a;young q 40 9 a;word w 0;word v 99;lighter a;");
        fine("glows=1;wears=heat;cools=age/2-1;leaves=since-5*(told+worn)/which;");
        fine("glows=if 1<2 then 3 else 4;");
        fine("glows = if heat+1<2*age then (3) else if glow<hour then temper else 4/0;");
        fine("corner ifx;corner corners;corner heats;");
        fine("corner a;corner aa;corner b;corner bb;corner ba;corner z;corner zz;word zzzzzzzz 1;word zzzzzzz 1;word az 1;");
    }

    private static void syntax() {
        fault("x;", SYNTAX, 0);
        fault(";", SYNTAX, 0);
        fault(" 7", SYNTAX, 1);
        fault("corner", SYNTAX, 6);
        fault("corner a", SYNTAX, 8);
        fault("corner a  ", SYNTAX, 10);
        fault("corner a,", SYNTAX, 8);
        fault("corner a.", SYNTAX, 8);
        fault("corner a\0;", SYNTAX, 8);
        fault("corner \u00e9;", SYNTAX, 7);
        fault("corner a\u00a0;", SYNTAX, 8);
        fault("corner a\f;", SYNTAX, 8);
        fault("corner abcdefghi;", SYNTAX, 7);
        fault("corner A;", SYNTAX, 7);
        fault("corner 1;", SYNTAX, 7);
        fault("corner a1;", SYNTAX, 8);
        fault("cornera;", SYNTAX, 0);
        fault("corner a b;", SYNTAX, 9);
        for (String quoted : new String[] {"corner", "street", "young", "word", "lighter", "glows", "wears", "cools", "leaves",
            "draught", "seed", "if", "then", "else", "heat", "age", "temper", "worn", "since", "hour", "glow", "which", "told"}) {
            fault("word " + quoted + " 1;", SYNTAX, 5);
        }
        fault("seed 12345;", SYNTAX, 5);
        fault("seed -1;", SYNTAX, 5);
        fault("seed ;", SYNTAX, 5);
        fault("seed 1", SYNTAX, 6);
        fault("young p 10 0;", SYNTAX, 12);
        fault("street a 1 1;", SYNTAX, 9);
        fault("glows;", SYNTAX, 5);
        fault("glows=;", SYNTAX, 6);
        fault("glows=1", SYNTAX, 7);
        fault("glows=abc;", SYNTAX, 6);
        fault("glows=1+;", SYNTAX, 8);
        fault("glows=-1;", SYNTAX, 6);
        fault("glows=1 2;", SYNTAX, 8);
        fault("glows=();", SYNTAX, 7);
        fault("glows=(1;", SYNTAX, 8);
        fault("glows=1);", SYNTAX, 7);
        fault("glows=1<2;", SYNTAX, 7);
        fault("glows=(1<2);", SYNTAX, 8);
        fault("glows=if 1<2 then 3;", SYNTAX, 19);
        fault("glows=if 1 then 3 else 4;", SYNTAX, 11);
        fault("glows=if 1<2<3 then 3 else 4;", SYNTAX, 12);
        fault("glows=if 1<2 else 3;", SYNTAX, 13);
        fault("glows=if (1<2) then 3 else 4;", SYNTAX, 11);
        fault("glows=1+if 1<2 then 3 else 4;", SYNTAX, 8);
        fault("glows=if 1<2 then if 1<2 then 3 else 4 else 5;", SYNTAX, 18);
        fault("glows=(if 1<2 then 3 else 4);", SYNTAX, 7);
        fault("glows=1 else 2;", SYNTAX, 8);
    }

    private static void room() {
        fine(named("corner ", 7, ";"));
        fault(named("corner ", 8, ";"), ROOM, 7 * 9);
        fault(named("corner ", 7, ";") + " corner !", ROOM, 7 * 9 + 1);
        String two = "corner a;corner b;";
        fine(two + "street a b 1;".repeat(10));
        fault(two + "street a b 1;".repeat(11), ROOM, 18 + 130);
        fine("corner z;" + named("young ", 6, " 10 0 z;"));
        fault("corner z;" + named("young ", 7, " 10 0 z;"), ROOM, 9 + 6 * 15);
        fine(named("word ", 5, " 9;"));
        fault(named("word ", 6, " 9;"), ROOM, 5 * 9);
        String ifThen = "if 1<2 then 3 else ";
        fine("glows=" + ifThen.repeat(4) + "5;wears=" + ifThen.repeat(4) + "5;");
        fault("glows=" + ifThen.repeat(5) + "5;", ROOM, 6 + 4 * 19);
        fault("glows=" + ifThen.repeat(4) + "if", ROOM, 6 + 4 * 19);
        fine("glows=((((((1))))))+((((((2))))));");
        fine("glows=if ((((((1))))))<((((((2)))))) then ((((((3)))))) else ((((((4))))));");
        fault("glows=(((((((1)))))));", ROOM, 12);
        fault("glows=1+((((1+(1+(1*(", ROOM, 20);
        fine("corner a;" + "lighter a;".repeat(50) + "cools=1;".repeat(50));
    }

    private static String named(String ahead, int n, String behind) {
        StringBuilder all = new StringBuilder();
        for (int i = 0; i < n; i++) {
            all.append(ahead).append((char) ('a' + i)).append(behind);
        }
        return all.toString();
    }

    private static void tokensRoom() {
        String s399 = "seed 1;".repeat(133);
        fine("seed 1;".repeat(132) + "word w 9;");
        fault(s399 + "seed 1;", ROOM, 931 + 5);
        fault(s399 + "seed ;", SYNTAX, 931 + 5);
        fault(s399 + "seed 12345;", SYNTAX, 931 + 5);
        fault(s399 + "seed ", SYNTAX, 931 + 5);
        fault(s399 + "seed !", SYNTAX, 931 + 5);
        fault("seed 1;".repeat(132) + "word w 9; seed", ROOM, 924 + 10);
        fault("seed 1;".repeat(132) + "word w 9; w", SYNTAX, 924 + 10);
    }

    private static void names() {
        fault("corner a;corner a;", TWICE, 16);
        fault("corner a;young a 10 0 a;", TWICE, 15);
        fault("corner a;word a 1;", TWICE, 14);
        fault("word a 1;corner a;", TWICE, 16);
        fault("word a 1;word a 1;", TWICE, 14);
        fault("corner a;young p 10 0 a;word p 1;", TWICE, 29);
        fault("corner a;street a a 1;", TWICE, 18);
        String many = named("corner ", 7, ";") + "young h 10 0 g;young i 10 0 g;young j 10 0 g;young k 10 0 g;young l 10 0 g;"
            + "young m 10 0 g;word n 1;word o 1;word p 1;word q 1;";
        fine(many + "word r 1;");
        fault(many + "word q 1;", TWICE, 63 + 90 + 36 + 5);
        fault(many + "word l 1;", TWICE, 63 + 90 + 36 + 5);
        fault(many + "word g 1;", TWICE, 63 + 90 + 36 + 5);
        fault("street a b 1;", NAME, 7);
        fault("street a a 1;", NAME, 7);
        fault("corner a;street a b 1;corner b;", NAME, 18);
        fault("corner a;street b a 1;", NAME, 16);
        fault("corner a;word w 1;street a w 1;", NAME, 27);
        fault("corner a;young p 10 9 b;", NAME, 22);
        fault("corner a;young p 10 9 p;", NAME, 22);
        fault("lighter a;", NAME, 8);
        fault("lighter a;corner a;", NAME, 8);
        fault("word w 1;lighter w;", NAME, 17);
    }

    private static void numbers() {
        String two = "corner a;corner b;";
        fault(two + "street a b 0;", WRONG, 29);
        fault(two + "street a b 100;", WRONG, 29);
        fault("corner a;young p 9 0 a;", WRONG, 17);
        fault("corner a;young p 41 0 a;", WRONG, 17);
        fault("corner a;young p 10 10 a;", WRONG, 20);
        fault("word w 100;", WRONG, 7);
        fault("draught 101;", WRONG, 8);
        fine("glows=9999;seed 9999;");
    }

    private static void whichFaultFirst() {
        fault("corner a;corner a;!", SYNTAX, 18);
        fault("word w 100;glows=(((((((", ROOM, 11 + 12);
        fault("word w 100;lighter x;", WRONG, 7);
        fault("lighter x;word w 100;", NAME, 8);
        fault("corner a;young a 9 10 x;", TWICE, 15);
        fault("corner a;young p 9 10 x;", WRONG, 17);
        fault("corner a;street a a 0;", TWICE, 18);
        fault("corner a;street x a 0;", NAME, 16);
        fault("!" + named("corner ", 8, ";"), SYNTAX, 0);
    }

    private static final String TOWN = "corner a;corner b;street a b 9;young p 10 0 a;word w 20;word v 3;lighter b;draught 7;seed 3;";

    private static void aFaultChangesNothing() {
        BlushLamps x = Check.town(TOWN);
        x.rouge(0);
        x.hours(5);
        x.hold(1);
        x.tell(0, 4, true);
        int[] before = counts(x);
        CHECK.due("read() of a fault", Check.read(x, "corner z;glows=9;draught 100;lighter y;"), NAME);
        CHECK.due("place()", x.place(), 37);
        same(x, before, "behind a FAULT");
        CHECK.due("tells(0, 0, 0)", x.tells(0, 0, 0), 20);
        CHECK.due("young(0, 3)", x.young(0, 3), 20);
        CHECK.due("undo()", x.undo(), true);
        CHECK.due("restore(1)", x.restore(1), true);
        CHECK.due("count(4)", x.count(4), 5);
        CHECK.due("read() of nothing", x.read(), 0);
        CHECK.due("place()", x.place(), BlushLamps.NONE);
        CHECK.due("count(0)", x.count(0), 0);
    }

    private static int[] counts(BlushLamps x) {
        int[] all = new int[21];
        for (int what = 0; what < 21; what++) {
            all[what] = x.count(what);
        }
        return all;
    }

    private static void same(BlushLamps x, int[] before, String when) {
        for (int what = 0; what < 21; what++) {
            CHECK.due("count(" + what + ") " + when, x.count(what), before[what]);
        }
    }

    private static void aTextBeginsAnew() {
        BlushLamps x = Check.town(TOWN);
        int[] first = counts(x);
        x.move(0, 1);
        x.say(0, 0);
        x.rouge(0);
        x.hours(5);
        x.step(0);
        x.hold(0);
        x.hold(2);
        x.tell(0, 4, true);
        CHECK.due("read()", Check.read(x, TOWN), 0);
        same(x, first, "of a text read again");
        CHECK.due("young(0, 2)", x.young(0, 2), 0);
        CHECK.due("young(0, 5)", x.young(0, 5), 0);
        CHECK.due("young(0, 7)", x.young(0, 7), 0);
        CHECK.due("word(0, 0)", x.word(0, 0), 20);
        CHECK.due("word(0, 1)", x.word(0, 1), 0);
        CHECK.due("undo()", x.undo(), false);
        CHECK.due("restore(0)", x.restore(0), false);
        CHECK.due("forget()", x.forget(), 0);
    }

    private static void laterTellsHold() {
        BlushLamps x = Check.town("corner a;corner b;lighter b;lighter a;word w 9;young p 10 0 a;glows=1;glows=2;wears=9;wears=3;"
            + "cools=5;cools=heat+worn+4;leaves=1;leaves=0-1;draught 100;draught 0;");
        CHECK.due("count(5)", x.count(5), 0);
        CHECK.due("tells(0, 0, 0)", x.tells(0, 0, 0), 2);
        CHECK.due("tells(0, 0, 1)", x.tells(0, 0, 1), 3);
        CHECK.due("young(0, 8)", x.young(0, 8), 4);
        CHECK.due("young(0, 9)", x.young(0, 9), 0);
        CHECK.due("count(12)", x.count(12), 0);
        BlushLamps y = Check.town("corner a;word w 9;young p 10 0 a;");
        CHECK.due("GLOWS if not told", y.tells(0, 0, 0), 9);
        CHECK.due("WEARS if not told", y.tells(0, 0, 1), 1);
        CHECK.due("COOLS if not told", y.young(0, 8), 0);
        CHECK.due("LEAVES if not told", y.young(0, 9), 0);
        CHECK.due("the LIGHTER if not told", y.count(5), 0);
    }
}
