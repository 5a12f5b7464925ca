/** Counts answers that are not as due, and tells them. */
final class Due {
    private static int wrong = 0;
    private static int asked = 0;

    private Due() {
    }

    static void is(String call, long got, long want) {
        asked++;
        if (got != want) {
            wrong++;
            if (wrong <= 40) {
                System.out.println(call + " answered " + got + ", due is " + want);
            }
        }
    }

    static void is(String call, boolean got, boolean want) {
        is(call, got ? 1 : 0, want ? 1 : 0);
    }

    /** Feeds a text behind what the tape has; the last blanks of twenty bytes are cut off again. */
    static void write(PastHeaps heaps, String text, int before) {
        for (int at = 0; at < text.length(); at += 20) {
            int[] five = new int[5];
            for (int i = 0; i < 20; i++) {
                int sign = at + i < text.length() ? text.charAt(at + i) : ' ';
                five[i / 4] = five[i / 4] << 8 | sign & 255;
            }
            heaps.feed(five[0], five[1], five[2], five[3], five[4]);
            heaps.end(Math.min(before + at + 20, before + text.length()));
        }
    }

    static int tell(PastHeaps heaps, int at, String text) {
        heaps.end(0);
        write(heaps, text, 0);
        return heaps.text(at);
    }

    /** A new object whose row 0 is a text. */
    static PastHeaps of(String text) {
        PastHeaps heaps = new PastHeaps();
        is("text " + text, tell(heaps, PastHeaps.NONE, text), 0);
        return heaps;
    }

    static String times(int many, String text) {
        StringBuilder texts = new StringBuilder();
        for (int i = 0; i < many; i++) {
            texts.append(text);
        }
        return texts.toString();
    }

    static long bits(int... versions) {
        long bits = 0;
        for (int version : versions) {
            bits |= 1L << version;
        }
        return bits;
    }

    static void finish(String name) {
        System.out.println(name + ": " + asked + " answers, " + wrong + " not as due");
        if (wrong != 0) {
            System.exit(1);
        }
    }
}
