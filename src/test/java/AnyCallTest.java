import java.util.Random;

/** Any call with any arguments in any state: none throws, none moves what it only asks. */
public final class AnyCallTest {
    private static final int[] EDGES = {Integer.MIN_VALUE, Integer.MAX_VALUE, -100, -3, -2, -1, 0, 1, 2, 3, 4, 5, 6, 9,
        10, 11, 12, 13, 14, 15, 30, 31, 39, 40, 41, 42, 62, 63, 64, 99, 100, 101, 127, 128, 600, 601, 1 << 16};
    private static final String[] PIECES = {"new", "put", "meld", "less", "lower", "cut", ";", ";", ";", " ", "\n", "0",
        "1", "7", "12", "40", "41", "99", "100", "x", "#", "" + (char) 255, "" + (char) 0,
        "put 0 5;", "put 1 3;", "meld 2 2;", "less 2;", "lower 2 0 1;", "cut 3 4;", "meld 1 2;", "meld 3 3;", "meld 4 4;"};

    private final Random random;
    private final PastHeaps heaps = new PastHeaps();

    private AnyCallTest(int seed) {
        random = new Random(seed);
    }

    public static void main(String[] args) {
        for (int seed = 0; seed < 300; seed++) {
            AnyCallTest test = new AnyCallTest(seed);
            for (int call = 0; call < 512; call++) {
                test.oneCall();
            }
        }
        Due.finish("AnyCallTest");
    }

    private int any() {
        return random.nextInt(8) == 0 ? random.nextInt() : EDGES[random.nextInt(EDGES.length)];
    }

    private int small(int below) {
        return random.nextInt(10) == 0 ? any() : random.nextInt(below);
    }

    private long bits() {
        switch (random.nextInt(5)) {
            case 0: return random.nextLong();
            case 1: return 1L << random.nextInt(64);
            case 2: return -1L >>> random.nextInt(64);
            default: return random.nextInt(1 << random.nextInt(14));
        }
    }

    private void oneCall() {
        try {
            if (random.nextInt(4) == 0) {
                tell();
            } else {
                int count = heaps.count();
                int nodes = heaps.all(0, false);
                ask(random.nextInt(31));
                Due.is("count", heaps.count(), count);
                Due.is("nodes", heaps.all(0, false), nodes);
            }
        } catch (Throwable thrown) {
            thrown.printStackTrace(System.out);
            Due.is("a call that throws", true, false);
        }
    }

    private void tell() {
        switch (random.nextInt(6)) {
            case 0: heaps.feed(any(), any(), any(), any(), any()); break;
            case 1: heaps.end(small(600)); break;
            case 2: heaps.image(small(3)); break;
            case 3: heaps.again(small(3)); break;
            default: tellText();
        }
    }

    private void tellText() {
        StringBuilder text = new StringBuilder();
        boolean wild = random.nextInt(3) == 0;
        int many = random.nextInt(wild ? 40 : 25);
        for (int i = 0; i < many; i++) {
            text.append(PIECES[wild ? random.nextInt(PIECES.length) : PIECES.length - 1 - random.nextInt(9)]);
        }
        Due.tell(heaps, random.nextInt(3) == 0 ? small(4) : -1, text.toString());
    }

    private void ask(int which) {
        int row = small(2);
        int a = small(14);
        int b = small(14);
        boolean flag = random.nextBoolean();
        switch (which) {
            case 0: heaps.fault(any()); break;
            case 1: heaps.act(row, a, small(5)); break;
            case 2: heaps.stop(row); break;
            case 3: heaps.did(row, a, small(4)); break;
            case 4: heaps.all(row, flag); break;
            case 5: heaps.version(row, a, small(8)); break;
            case 6: heaps.order(row, a, small(64), flag); break;
            case 7: heaps.walk(row, a, small(64), small(6)); break;
            case 8: heaps.root(row, a, small(7)); break;
            case 9: heaps.depth(row, a, small(9)); break;
            case 10: heaps.comes(row, a, b); break;
            case 11: heaps.meet(row, a, b, flag); break;
            case 12: heaps.shared(row, a, b); break;
            case 13: heaps.kept(row, bits(), flag); break;
            case 14: heaps.heavy(row, bits()); break;
            case 15: heaps.cover(row, bits()); break;
            case 16: heaps.differ(row, a, b); break;
            case 17: heaps.alike(row, a, b, flag); break;
            case 18: heaps.would(row, a, small(7), any(), any(), flag); break;
            case 19: heaps.fold(row, bits(), random.nextBoolean() ? 0 : small(16)); break;
            case 20: heaps.dearest(row, flag); break;
            case 21: heaps.below(row, a, any()); break;
            case 22: heaps.age(row, small(10), flag); break;
            case 23: heaps.lowest(row, small(10)); break;
            case 24: heaps.over(row, any()); break;
            case 25: heaps.drawn(row, a, any(), small(33), small(5)); break;
            case 26: heaps.looked(row, a, small(64), flag); break;
            case 27: heaps.way(row, a, b, flag); break;
            case 28: heaps.twice(row, a, flag); break;
            case 29: heaps.tallest(row, a, b); break;
            default: heaps.forget(row, bits(), any()); break;
        }
    }
}
