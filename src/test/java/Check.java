import java.nio.charset.StandardCharsets;

/** What the project's tests share: answers that are due, and texts fed as a tape. */
final class Check {
    private int wrong;
    private int looked;
    private final String name;

    Check(String name) {
        this.name = name;
    }

    void due(String call, long got, long want) {
        looked++;
        if (got != want) {
            wrong++;
            if (wrong <= 50) {
                System.out.println(name + ": " + call + " answered " + got + ", due is " + want);
            }
        }
    }

    void due(String call, boolean got, boolean want) {
        due(call, got ? 1 : 0, want ? 1 : 0);
    }

    boolean isAnyWrong() {
        return wrong > 0;
    }

    /** To be called last: a test with no answers looked at has not tested anything. */
    void end() {
        System.out.println(name + ": " + looked + " answers, " + wrong + " wrong");
        if (wrong > 0 || looked == 0) {
            System.exit(1);
        }
    }

    static byte[] bytes(String text) {
        return text.getBytes(StandardCharsets.ISO_8859_1);
    }

    /** The tape's next 20 bytes as five ints; behind the text's end there are blanks. */
    static int[] twenty(byte[] text, int from) {
        int[] five = new int[5];
        for (int i = 0; i < 20; i++) {
            int next = from + i < text.length ? text[from + i] & 255 : ' ';
            five[i / 4] = five[i / 4] << 8 | next;
        }
        return five;
    }

    static void feed(BlushLamps lamps, String text) {
        byte[] all = bytes(text);
        for (int from = 0; from < all.length; from += 20) {
            int[] f = twenty(all, from);
            lamps.feed(f[0], f[1], f[2], f[3], f[4]);
        }
        lamps.back((20 - all.length % 20) % 20);
    }

    static int read(BlushLamps lamps, String text) {
        feed(lamps, text);
        return lamps.read();
    }

    static BlushLamps town(String text) {
        BlushLamps lamps = new BlushLamps();
        int fault = read(lamps, text);
        if (fault != 0) {
            throw new IllegalArgumentException("fault " + fault + " at " + lamps.place() + " of: " + text);
        }
        return lamps;
    }
}
