import com.sun.management.ThreadMXBean;
import java.lang.management.ManagementFactory;

/** What 512 of the dearest calls make, in bytes: the room has some 7.3 million fields and elements. */
public final class RoomTest {
    /** Of many random texts that one of whose last version a cut makes most nodes. */
    private static final String GREAT =
        "put 0 76;put 1 15;put 2 22;put 3 61;put 4 88;put 5 34;meld 6 4;meld 7 6;meld 8 7;meld 9 7;meld 10 9;put 11 16;";

    public static void main(String[] args) {
        StringBuilder text = new StringBuilder(GREAT);
        for (int k = 12; k < 40; k++) {
            text.append("cut 12 99;");
        }
        ThreadMXBean threads = (ThreadMXBean) ManagementFactory.getThreadMXBean();
        long self = Thread.currentThread().getId();
        // The first of all also loads classes, which is none of its own doing.
        Due.tell(new PastHeaps(), PastHeaps.NONE, GREAT);
        long before = threads.getThreadAllocatedBytes(self);
        PastHeaps heaps = new PastHeaps();
        long made = threads.getThreadAllocatedBytes(self) - before;
        Due.is("a new object makes " + made + " bytes", made < 16 * 1024, true);
        int calls = 0;
        int[][] fed = fives(text.toString());
        before = threads.getThreadAllocatedBytes(self);
        for (int row = 0; row < 4; row++) {
            for (int[] five : fed) {
                heaps.feed(five[0], five[1], five[2], five[3], five[4]);
                calls++;
            }
            heaps.end(text.length());
            heaps.text(PastHeaps.NONE);
            calls += 2;
        }
        for (int k = 0; k < 3; k++) {
            heaps.image(k);
            calls++;
        }
        for (int i = 0; calls < 512; i++) {
            dear(heaps, i);
            calls++;
        }
        made = threads.getThreadAllocatedBytes(self) - before;
        Due.is("four rows", heaps.count(), 4);
        Due.is("all acts", heaps.stop(3), 40);
        Due.is("512 calls make " + made + " bytes", made < 4L * 1024 * 1024, true);
        System.out.println("512 dear calls make " + made + " bytes, rows of " + heaps.all(3, false) + " nodes");
        Due.finish("RoomTest");
    }

    private static int[][] fives(String text) {
        int[][] fives = new int[(text.length() + 19) / 20][5];
        for (int at = 0; at < fives.length * 20; at++) {
            int sign = at < text.length() ? text.charAt(at) : ' ';
            int[] five = fives[at / 20];
            five[at % 20 / 4] = five[at % 20 / 4] << 8 | sign;
        }
        return fives;
    }

    private static void dear(PastHeaps heaps, int i) {
        int row = i & 3;
        switch (i % 7) {
            case 0: heaps.again(i % 3); break;
            case 1: heaps.fold(row, 31, 0); break;
            case 2: heaps.cover(row, 4095); break;
            case 3: heaps.forget(row, 4095, 5); break;
            case 4: heaps.drawn(row, 12, i, 30, 1); break;
            case 5: heaps.would(row, 12, 5, 99, 0, false); break;
            default: heaps.looked(row, 12, 63, false); break;
        }
    }
}
