import java.lang.management.ManagementFactory;

/** All calls of a run live in one room: a new object takes little of it, and calls take none. */
final class RoomTest {
    private static final Check CHECK = new Check("RoomTest");
    /** What the measuring itself may take. */
    private static final long SLACK = 4096;

    public static void main(String[] args) {
        StringBuilder text = new StringBuilder();
        for (int c = 0; c < 7; c++) {
            text.append("corner c").append((char) ('a' + c)).append(';');
        }
        for (int s = 0; s < 10; s++) {
            text.append("street c").append((char) ('a' + s % 7)).append(" c").append((char) ('a' + (s + 1 + s / 7) % 7)).append(' ')
                .append(30 + 5 * s).append(';');
        }
        for (int y = 0; y < 6; y++) {
            text.append("young y").append((char) ('a' + y)).append(" 20 5 c").append((char) ('a' + y)).append(';');
        }
        for (int w = 0; w < 5; w++) {
            text.append("word w").append((char) ('a' + w)).append(' ').append(9 + 7 * w).append(';');
        }
        text.append("glows=if heat<20 then heat*2 else heat+temper;cools=1+which/3;leaves=since-60;draught 30;seed 5;");
        byte[] all = Check.bytes(text.toString());
        int[][] fives = new int[(all.length + 19) / 20][];
        for (int i = 0; i < fives.length; i++) {
            fives[i] = Check.twenty(all, 20 * i);
        }
        run(new BlushLamps(), fives);
        long before = taken();
        BlushLamps x = new BlushLamps();
        long made = taken();
        int sum = run(x, fives);
        long ran = taken();
        CHECK.due("an object takes " + (made - before) + " bytes", made - before < 40000, true);
        CHECK.due("a run takes " + (ran - made) + " bytes", ran - made < SLACK, true);
        CHECK.due("the run was one", sum != 0, true);
        CHECK.end();
    }

    private static long taken() {
        return ((com.sun.management.ThreadMXBean) ManagementFactory.getThreadMXBean()).getCurrentThreadAllocatedBytes();
    }

    private static int run(BlushLamps x, int[][] fives) {
        int sum = 0;
        for (int[] f : fives) {
            sum += x.feed(f[0], f[1], f[2], f[3], f[4]);
        }
        sum += x.read() == 0 ? 1 : -1000000;
        for (int i = 0; i < 8; i++) {
            sum += x.say(i % 6, i % 5) + x.hours(1) + x.step(i % 10) + x.best(-1) + x.best(i % 6) + x.year(i, 72, 20);
            x.rouge(i % 6);
            x.move(i % 6, (i + 3) % 7);
            sum += x.darkens(i) + x.telling(i % 6, 0) + x.keep() + x.steps(0, i % 7) + x.round() + x.safe(i % 7);
            sum += x.dark(0, i % 7) + x.bridges() + x.gather(1) + x.moves(i, 1) + x.cut(i % 7, (i + 2) % 7) + x.tree();
            sum += x.twins(0) + x.brightest(0) + x.glowIn(i % 6, 72) + x.then(72, 0) + x.tell(i % 6, 40, true);
            sum += x.words(i, 1) + x.look(i, 30) + x.count(20) + x.young(i % 6, 8) + x.tells(i % 6, 0, 1);
            x.hold(i % 3);
            x.undo();
            x.restore(i % 3);
        }
        return sum + x.forget();
    }
}
