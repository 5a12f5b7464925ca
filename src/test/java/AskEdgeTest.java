import java.util.ArrayList;
import java.util.Collections;
import java.util.List;

/** The edges of what is asked of versions: Terms 3 to 5, promises 15 to 35. */
public final class AskEdgeTest {
    private static final int NONE = PastHeaps.NONE;
    private static final int MIN = Integer.MIN_VALUE;
    private static final int MAX = Integer.MAX_VALUE;

    /** Versions 1 to 11 have 1, 2, 4, 8, 16, 32, 48, 56, 60, 62 and 63 nodes, all of one thing and key. */
    private static final String FULL =
        "put 0 1;meld 1 1;meld 2 2;meld 3 3;meld 4 4;meld 5 5;meld 6 5;meld 7 4;meld 8 3;meld 9 2;meld 10 1;";

    /** Version 1 has node 0, 2 has 1, 3 has 2 and 3, 4 has 0, 2 and 3, 5 the same; 6 is empty, 7 has node 4. */
    private static final String SHARED = "put 0 1;put 0 2;put 2 3;meld 1 3;meld 4 0;new;put 6 5;";

    public static void main(String[] args) {
        comesFromItself();
        comesByParents();
        meetOfEdges();
        awayOfEdges();
        sharedOfEdges();
        keptOfEdges();
        heavyOfEdges();
        coverOfEdges();
        coverOfTwelve();
        differOfSizes();
        differOfTwice();
        differBelowZero();
        alikeOfEdges();
        wouldOfKeys();
        wouldOfActs();
        wouldOfFull();
        foldOfHowMany();
        foldOfSizes();
        foldByRows();
        dearestOfEdges();
        belowOfEdges();
        agesOfEdges();
        lowestOfEdges();
        overOfEdges();
        drawnOfEdges();
        drawnOfSeeds();
        drawnOfFull();
        lookedOfEdges();
        sumOfEdges();
        wayOfEdges();
        twiceOfEdges();
        freshOfEdges();
        tallestOfEdges();
        forgetOfEdges();
        forgetOfSeveral();
        forgetOfTwelve();
        bitsOfNone();
        Due.finish("AskEdgeTest");
    }

    // Terms 3: "COMES: one comes from itself"
    private static void comesFromItself() {
        PastHeaps heaps = Due.of(Due.times(40, "new;"));
        for (int v = 0; v <= 40; v++) {
            Due.is("itself " + v, heaps.comes(0, v, v), true);
            Due.is("new: none", heaps.comes(0, v, 0), v == 0);
            Due.is("none comes from another", heaps.comes(0, 0, v), v == 0);
        }
        Due.is("no version", heaps.comes(0, 41, 41), false);
    }

    // Terms 3: "PARENTS: which VERSIONS an act names (new: none); .. from what these come from"
    private static void comesByParents() {
        PastHeaps heaps = Due.of("put 0 5;put 0 6;meld 1 2;less 3;lower 4 1 0;cut 5 1;new;meld 7 7;meld 0 6;meld 8 0;");
        int[][] from = {{0}, {0, 1}, {0, 2}, {0, 1, 2, 3}, {0, 1, 2, 3, 4}, {0, 1, 2, 3, 4, 5},
            {0, 1, 2, 3, 4, 5, 6}, {7}, {7, 8}, {0, 1, 2, 3, 4, 5, 6, 9}, {0, 7, 8, 10}};
        for (int v = 0; v < from.length; v++) {
            for (int other = 0; other < from.length; other++) {
                boolean due = false;
                for (int one : from[v]) {
                    due |= one == other;
                }
                Due.is("comes " + v + " " + other, heaps.comes(0, v, other), due);
            }
        }
    }

    // Terms 3: "MEET of two: the greatest VERSION from which both come"; promise 16: "NONE: none"
    private static void meetOfEdges() {
        PastHeaps heaps = Due.of("put 0 5;put 0 6;meld 1 2;meld 2 1;new;meld 5 5;meld 5 1;meld 6 7;");
        int[][] due = {{0, 0, 0}, {1, 0, 0}, {1, 2, 0}, {1, 1, 1}, {3, 4, 2}, {3, 1, 1}, {3, 2, 2}, {5, 0, NONE},
            {5, 1, NONE}, {5, 6, 5}, {6, 6, 6}, {6, 7, 5}, {7, 1, 1}, {7, 3, 1}, {7, 2, 0}, {8, 3, 1}, {8, 7, 7},
            {8, 6, 6}, {6, 0, NONE}, {7, 0, 0}};
        for (int[] one : due) {
            Due.is("meet " + one[0] + " " + one[1], heaps.meet(0, one[0], one[1], false), one[2]);
            Due.is("meet " + one[1] + " " + one[0], heaps.meet(0, one[1], one[0], false), one[2]);
        }
        heaps = Due.of(Due.times(38, "cut 0 1;") + "meld 38 37;cut 39 5;");
        Due.is("the last one", heaps.meet(0, 40, 40, false), 40);
        Due.is("the last two", heaps.meet(0, 39, 40, false), 39);
        Due.is("brothers", heaps.meet(0, 38, 37, false), 0);
    }

    // Terms 3: "AWAY of two: the fewest acts"; promise 16: NONE where "the second one does not come from the first one"
    private static void awayOfEdges() {
        PastHeaps heaps = Due.of("put 0 5;cut 1 0;cut 2 0;meld 3 1;meld 1 3;meld 3 3;new;meld 6 7;cut 0 1;");
        int[][] due = {{0, 0, 0}, {0, 1, 1}, {0, 3, 3}, {0, 4, 2}, {0, 5, 2}, {1, 4, 1}, {1, 5, 1}, {2, 4, 2}, {3, 6, 1},
            {0, 6, 4}, {0, 8, 5}, {7, 8, 1}, {1, 0, NONE}, {4, 5, NONE}, {0, 7, NONE}, {7, 7, 0}, {8, 8, 0}, {8, 7, NONE},
            {0, 9, 1}, {1, 9, NONE}};
        for (int[] one : due) {
            Due.is("away " + one[0] + " " + one[1], heaps.meet(0, one[0], one[1], true), one[2]);
        }
        StringBuilder row = new StringBuilder();
        for (int k = 0; k < 40; k++) {
            row.append("cut ").append(k).append(" 0;");
        }
        Due.is("forty acts", Due.of(row.toString()).meet(0, 0, 40, true), 40);
    }

    // Terms 3: "HOLDS: .. each one once. SHARED of two: NODES that both hold"
    private static void sharedOfEdges() {
        PastHeaps heaps = Due.of(SHARED + "meld 1 1;meld 8 8;");
        int[][] due = {{0, 0, 0}, {0, 1, 0}, {1, 1, 1}, {1, 2, 0}, {1, 4, 1}, {3, 4, 2}, {4, 5, 3}, {6, 5, 0}, {7, 7, 1},
            {8, 8, 2}, {9, 9, 3}, {8, 9, 2}, {1, 9, 1}, {4, 9, 1}};
        for (int[] one : due) {
            Due.is("shared " + one[0] + " " + one[1], heaps.shared(0, one[0], one[1]), one[2]);
            Due.is("shared " + one[1] + " " + one[0], heaps.shared(0, one[1], one[0]), one[2]);
        }
        int[] alone = {0, 0, 1, 0, 0, 0, 0, 1, 0, 1};
        int[] holds = {0, 1, 1, 2, 3, 3, 0, 1, 2, 3};
        for (int v = 0; v < alone.length; v++) {
            Due.is("alone " + v, heaps.version(0, v, 3), alone[v]);
            Due.is("holds " + v, heaps.version(0, v, 2), holds[v]);
        }
    }

    // Terms 3: "KEPT: NODES that some of these hold; BACK: of all NODES made the others"
    private static void keptOfEdges() {
        // 0 is 0:5, 1 is 1:3 (held by none, as its link 2 has its place), 2 is 1:3 over 0
        PastHeaps heaps = Due.of("put 0 5;put 1 3;less 2;");
        long[][] due = {{0, 0, 3}, {1, 0, 3}, {2, 1, 2}, {4, 2, 1}, {6, 2, 1}, {8, 1, 2}, {10, 1, 2}, {15, 2, 1}};
        for (long[] one : due) {
            Due.is("kept " + one[0], heaps.kept(0, one[0], false), one[1]);
            Due.is("back " + one[0], heaps.kept(0, one[0], true), one[2]);
        }
        heaps = Due.of("new;");
        Due.is("of no nodes", heaps.kept(0, 3, false), 0);
        Due.is("of no nodes", heaps.kept(0, 3, true), 0);
        heaps = Due.of(Due.times(39, "new;") + "put 0 5;");
        Due.is("the last version", heaps.kept(0, 1L << 40, false), 1);
        Due.is("the last version", heaps.kept(0, 1L << 40, true), 0);
        Due.is("all but it", heaps.kept(0, (1L << 40) - 1, true), 1);
        Due.is("all", heaps.kept(0, (1L << 41) - 1, false), 1);
        Due.is("no 41st", heaps.kept(0, 1L << 41, false), NONE);
    }

    // Terms 3: HEAVY, "of several the least"; promise 19: "NONE: there are none"
    private static void heavyOfEdges() {
        PastHeaps heaps = Due.of(SHARED);
        long[][] due = {{0, NONE}, {1, 0}, {bit(6), 6}, {1 | bit(6), 0}, {bit(0, 1), 1}, {bit(1, 2), 1}, {bit(1, 2, 3), 3},
            {bit(4, 5), 4}, {bit(3, 4), 4}, {bit(1, 4), 4}, {bit(1, 3, 4), 1}, {bit(1, 3, 4, 5), 1}, {bit(2, 4, 5), 2},
            {bit(0, 4, 5), 0}, {bit(4, 5, 7), 7}, {bit(5, 7), 5}, {bit(0, 1, 2, 3, 4, 5, 6, 7), 2}, {bit(7), 7}};
        for (long[] one : due) {
            Due.is("heavy " + one[0], heaps.heavy(0, one[0]), one[1]);
        }
        // of more than twelve, too
        heaps = Due.of(Due.times(39, "new;") + "put 0 5;");
        Due.is("of all", heaps.heavy(0, (1L << 41) - 1), 40);
        Due.is("of all but it", heaps.heavy(0, (1L << 40) - 1), 0);
        Due.is("asked again", heaps.heavy(0, (1L << 40) - 2), 1);
    }

    private static long bit(int... versions) {
        return Due.bits(versions);
    }

    // Terms 3: COVER, "the fewest that keep all that these keep; of several the least number (bits)"
    private static void coverOfEdges() {
        PastHeaps heaps = Due.of(SHARED);
        long[][] due = {{0, 0}, {1, 0}, {bit(0, 6), 0}, {bit(1), bit(1)}, {bit(4, 5), bit(4)}, {bit(3, 5), bit(5)},
            {bit(1, 3), bit(1, 3)}, {bit(1, 3, 4), bit(4)}, {bit(1, 3, 5), bit(5)}, {bit(1, 3, 4, 5), bit(4)},
            {bit(0, 1, 3, 4, 5, 6, 7), bit(4, 7)}, {bit(2, 5), bit(2, 5)}, {bit(2), bit(2)}, {bit(7), bit(7)},
            {bit(0, 1, 2, 3, 4, 5, 6, 7), bit(2, 4, 7)}};
        for (long[] one : due) {
            Due.is("cover " + one[0], heaps.cover(0, one[0]), one[1]);
        }
    }

    // Terms 3: "COVER of at most 12"; promise 20: "NONE: they are more than 12"
    private static void coverOfTwelve() {
        PastHeaps heaps = Due.of(Due.times(39, "put 0 5;") + "put 39 6;");
        long twelve = 4095L << 1;
        Due.is("12", heaps.cover(0, twelve), twelve);
        Due.is("13", heaps.cover(0, twelve | 1), NONE);
        Due.is("13", heaps.cover(0, 8191L << 1), NONE);
        Due.is("12 last ones", heaps.cover(0, 4095L << 29), 4095L << 29);
        Due.is("12 with the empty one", heaps.cover(0, 4095), 4094);
        Due.is("few behind many", heaps.cover(0, bit(0, 39)), bit(39));
        Due.is("all", heaps.cover(0, (1L << 41) - 1), NONE);
        Due.is("the last one", heaps.cover(0, 1L << 40), 1L << 40);
    }

    // Terms 4: "DIFFER of two VERSIONS, SIZES of 6 at most"; promise 21: "NONE: one is too great"
    private static void differOfSizes() {
        PastHeaps heaps = Due.of("put 0 1;put 1 2;put 2 3;put 3 4;put 4 5;put 5 6;put 6 7;less 7;put 0 9;");
        for (int size = 0; size <= 6; size++) {
            Due.is("puts", heaps.differ(0, 0, size), size);
            Due.is("less", heaps.differ(0, size, 0), size);
            Due.is("itself", heaps.differ(0, size, size), 0);
            Due.is("too great", heaps.differ(0, 7, size), NONE);
            Due.is("too great", heaps.differ(0, size, 7), NONE);
        }
        Due.is("too great", heaps.differ(0, 7, 7), NONE);
        // from 0 .. 5 to 1 .. 6: less and put; back: 0 is put, 6 is lowered and goes by less
        Due.is("two acts", heaps.differ(0, 6, 8), 2);
        Due.is("back", heaps.differ(0, 8, 6), 3);
        // all of six for one, and one for six
        Due.is("six go, one comes", heaps.differ(0, 6, 9), 7);
        Due.is("one goes, six come", heaps.differ(0, 9, 6), 7);
    }

    // Terms 4: DIFFER, "no thing twice in either"
    private static void differOfTwice() {
        // version 3 has thing 0 twice, with unlike keys, and nothing else twice; version 4 with like keys
        PastHeaps heaps = Due.of("put 0 5;lower 1 0 3;meld 1 2;meld 1 1;put 3 8;less 3;put 0 5;");
        for (int v : new int[] {0, 1, 2, 6, 7}) {
            for (int twice : new int[] {3, 4, 5}) {
                Due.is("twice in the first", heaps.differ(0, twice, v), NONE);
                Due.is("twice in the second", heaps.differ(0, v, twice), NONE);
            }
        }
        Due.is("lowered", heaps.differ(0, 1, 2), 1);
        Due.is("a rise: less and put", heaps.differ(0, 2, 1), 2);
        Due.is("once again", heaps.differ(0, 6, 1), 0);
        // a like key of another thing is not the same
        Due.is("another thing", heaps.differ(0, 1, 7), 2);
    }

    // Terms 4: DIFFER, "lower (to any KEY, also below 0)"
    private static void differBelowZero() {
        // 0:0 stands before 1:0, which must go: lowered below 0 it goes by less
        PastHeaps heaps = Due.of("put 0 0;put 1 0;put 2 0;put 3 0;put 0 0;put 0 5;lower 6 2 0;");
        Due.is("one lowered", heaps.differ(0, 2, 1), 2);
        Due.is("two lowered", heaps.differ(0, 3, 1), 4);
        Due.is("three lowered, or four less and one put", heaps.differ(0, 4, 1), 5);
        Due.is("first in order: less", heaps.differ(0, 1, 0), 1);
        Due.is("first in order: less; 4:0 is put", heaps.differ(0, 1, 5), 2);
        Due.is("lowered to the key that is due", heaps.differ(0, 6, 7), NONE);
        heaps = Due.of("put 0 9;put 1 8;lower 2 0 8;lower 3 1 7;lower 2 0 7;");
        Due.is("one lowered", heaps.differ(0, 2, 3), 1);
        Due.is("two lowered", heaps.differ(0, 2, 4), 2);
        Due.is("a rise is less and put", heaps.differ(0, 4, 3), 2);
        // 0:8 is behind 1:7, so it is lowered, and rises by less and put; 1:7 the same: less, less, put, put
        Due.is("both rise", heaps.differ(0, 4, 2), 4);
        Due.is("lowered past the other", heaps.differ(0, 2, 5), 1);
    }

    // Terms 4: "ALIKE: .. (each as often); SAME: their WALKS are alike, too"
    private static void alikeOfEdges() {
        PastHeaps heaps = Due.of("put 0 5;meld 1 1;meld 2 1;new;put 0 5;put 1 5;meld 1 5;meld 5 1;put 0 5;put 9 5;");
        alike(heaps, 0, 0, true, true);
        alike(heaps, 0, 4, true, true);
        alike(heaps, 0, 1, false, false);
        alike(heaps, 1, 2, false, false);
        alike(heaps, 2, 3, false, false);
        alike(heaps, 1, 5, false, false);
        alike(heaps, 7, 8, true, true);
        alike(heaps, 6, 7, false, false);
        alike(heaps, 3, 3, true, true);
        // as many of the same things, but not each as often: 0:5, 0:5, 1:5 and 0:5, 1:5, 1:5
        heaps = Due.of("put 0 5;put 0 5;meld 1 2;meld 3 1;meld 3 2;meld 1 3;meld 4 2;meld 5 1;lower 3 1 5;lower 1 0 4;");
        alike(heaps, 4, 5, false, false);
        alike(heaps, 4, 6, true, true);
        alike(heaps, 7, 8, true, true);
        alike(heaps, 3, 9, true, true);
        alike(heaps, 1, 10, false, false);
        alike(heaps, 1, 2, false, false);
        // the same things with the same keys in another walk: 2 alone, or 1 alone
        heaps = Due.of("put 0 1;put 0 2;put 0 3;meld 1 2;meld 4 3;meld 1 3;meld 6 2;meld 5 0;");
        alike(heaps, 5, 7, true, false);
        alike(heaps, 7, 5, true, false);
        alike(heaps, 5, 8, true, true);
    }

    private static void alike(PastHeaps heaps, int a, int b, boolean alike, boolean same) {
        Due.is("alike " + a + " " + b, heaps.alike(0, a, b, false), alike);
        Due.is("alike " + b + " " + a, heaps.alike(0, b, a, false), alike);
        Due.is("same " + a + " " + b, heaps.alike(0, a, b, true), same);
        Due.is("same " + b + " " + a, heaps.alike(0, b, a, true), same);
    }

    private static void would(PastHeaps heaps, int version, int act, int a, int b, int made, int links) {
        String of = "would " + version + " " + act + " " + a + " " + b;
        Due.is(of, heaps.would(0, version, act, a, b, false), made);
        Due.is(of + " links", heaps.would(0, version, act, a, b, true), links);
    }

    // Promise 23: "NONE: it can't be, .. a KEY not 0 .. 99"
    private static void wouldOfKeys() {
        PastHeaps heaps = Due.of("put 0 99;put 1 99;");
        for (int key : new int[] {-1, -2, 100, 101, MIN, MAX}) {
            would(heaps, 2, 1, key, 0, NONE, NONE);
            would(heaps, 2, 4, 0, key, NONE, NONE);
            would(heaps, 2, 5, key, 0, NONE, NONE);
        }
        for (int key : new int[] {0, 1, 98, 99}) {
            would(heaps, 2, 1, key, MAX, 1, 0);
            would(heaps, 1, 1, key, MIN, 2, 1);
            would(heaps, 2, 4, 0, key, 1, 0);
            would(heaps, 2, 4, 1, key, 2, 0);
            would(heaps, 2, 5, key, MAX, 0, 0);
        }
        // a key like it can be, one above it not
        heaps = Due.of("put 0 5;put 1 5;put 2 9;");
        would(heaps, 3, 4, 1, 5, 2, 0);
        would(heaps, 3, 4, 1, 6, NONE, NONE);
        would(heaps, 3, 5, 5, 0, 0, 0);
        would(heaps, 3, 5, 6, 0, 1, 1);
        would(heaps, 3, 5, 99, 0, 1, 1);
        // for meld and less a and b are no keys
        would(heaps, 3, 3, -1, 100, 1, 1);
        would(heaps, 3, 3, MAX, MIN, 1, 1);
        would(heaps, 3, 2, 1, 100, 2, 2);
        would(heaps, 3, 2, 1, -1, 2, 2);
    }

    // Promise 23: "WOULD of act 1 .. 5", "NONE: it can't be, there is none such (of any), or another act"
    private static void wouldOfActs() {
        PastHeaps heaps = Due.of("put 0 5;put 1 3;put 2 8;less 0;put 3 1;");
        for (int act : new int[] {0, 6, 7, -1, MIN, MAX}) {
            would(heaps, 3, act, 1, 1, NONE, NONE);
        }
        would(heaps, 0, 1, 0, 0, 1, 0);
        would(heaps, 0, 2, 0, 0, 0, 0);
        would(heaps, 0, 3, 0, 0, NONE, NONE);
        would(heaps, 0, 4, 0, 0, NONE, NONE);
        would(heaps, 0, 5, 99, 0, 0, 0);
        for (int thing : new int[] {3, 39, 40, 127, 128, 256, -1, -128, MIN, MAX}) {
            would(heaps, 3, 4, thing, 0, NONE, NONE);
        }
        for (int version : new int[] {4, 5, 40, 41, 63, 64, 67, -1, MIN, MAX}) {
            would(heaps, 3, 2, version, 0, NONE, NONE);
        }
        would(heaps, 3, 2, 0, 0, 0, 0);
        would(heaps, 3, 2, 3, 0, 2, 2);
        Due.is("nodes as they were", heaps.all(0, false), 4);
        Due.is("things as they were", heaps.all(0, true), 3);
        Due.is("stop as it was", heaps.stop(0), 3);
        Due.is("acts as they were", heaps.did(0, 2, 0), 1);
        Due.is("holds as they were", heaps.version(0, 3, 3), 1);
    }

    // Promise 23: "it can't be": of more than 63
    private static void wouldOfFull() {
        PastHeaps heaps = Due.of(FULL);
        would(heaps, 11, 1, 0, 0, NONE, NONE);
        would(heaps, 10, 1, 0, 0, 1, 0);
        would(heaps, 11, 2, 0, 0, 0, 0);
        would(heaps, 0, 2, 11, 0, 0, 0);
        would(heaps, 11, 2, 1, 0, NONE, NONE);
        would(heaps, 1, 2, 11, 0, NONE, NONE);
        would(heaps, 10, 2, 1, 0, 0, 0);
        would(heaps, 10, 2, 2, 0, NONE, NONE);
        would(heaps, 6, 2, 6, 0, NONE, NONE);
        would(heaps, 5, 2, 5, 0, 1, 1);
        would(heaps, 11, 3, 0, 0, 0, 0);
        would(heaps, 11, 5, 1, 0, 0, 0);
        // of likes the least rank goes first, so that what is below it finds no other tree
        would(heaps, 11, 5, 2, 0, 0, 0);
    }

    private static void fold(PastHeaps heaps, long bits, int... due) {
        Due.is("fold " + bits, heaps.fold(0, bits, 0), due[0]);
        for (int i = 0; i < due.length - 1; i++) {
            Due.is("fold " + bits + " " + i, heaps.fold(0, bits, 10 + i), due[i + 1]);
        }
        int beyond = due.length - 1;
        for (int what : new int[] {10 + beyond, 11 + beyond, 9, 8, 5, 1, -1, -10, MIN, MAX}) {
            Due.is("another what", heaps.fold(0, bits, what), NONE);
        }
    }

    private static void noFold(PastHeaps heaps, long bits) {
        for (int what : new int[] {0, 10, 11, 12}) {
            Due.is("no fold " + bits, heaps.fold(0, bits, what), NONE);
        }
    }

    // Terms 4: "FOLD of 2 to 5 VERSIONS", "(0 of an empty HEAP)"; promise 24: "NONE: they are not 2 to 5"
    private static void foldOfHowMany() {
        PastHeaps heaps = Due.of("put 0 1;put 0 2;put 0 3;put 0 4;put 0 5;new;new;");
        noFold(heaps, 0);
        noFold(heaps, bit(0));
        noFold(heaps, bit(3));
        noFold(heaps, bit(0, 1, 2, 3, 4, 5));
        noFold(heaps, 255);
        fold(heaps, bit(0, 6), 0, 0, 6);
        fold(heaps, bit(0, 6, 7), 0, 0, 6, 7);
        fold(heaps, bit(1, 2), 0, 1, 2);
        fold(heaps, bit(4, 6), 0, 4, 6);
        // of three a last one by itself that goes makes nothing; of five, too
        fold(heaps, bit(1, 2, 3), 0, 2, 3, 1);
        fold(heaps, bit(1, 2, 3, 4), 0, 1, 2, 3, 4);
        fold(heaps, bit(1, 2, 3, 4, 5), 0, 2, 3, 4, 5, 1);
        fold(heaps, bit(0, 2, 3, 4, 5), 0, 0, 2, 3, 4, 5);
        Due.is("nothing is made", heaps.all(0, false), 5);
    }

    // Promise 24: ".. have more than 63 together"
    private static void foldOfSizes() {
        PastHeaps heaps = Due.of(FULL + "new;");
        Due.is("63 and none", heaps.fold(0, bit(0, 11), 0), 0);
        Due.is("63 and none", heaps.fold(0, bit(0, 11), 11), 11);
        Due.is("63 and none and none", heaps.fold(0, bit(0, 11, 12), 12), 12);
        noFold(heaps, bit(1, 11));
        noFold(heaps, bit(2, 10));
        Due.is("62 and one", heaps.fold(0, bit(1, 10), 0), 0);
        Due.is("1, 2, 4, 8 and 16", heaps.fold(0, bit(1, 2, 3, 4, 5), 0), 0);
        Due.is("1, 2, 60", heaps.fold(0, bit(1, 2, 9), 0), 0);
        noFold(heaps, bit(1, 2, 4, 8));
        noFold(heaps, bit(1, 2, 3, 9));
        noFold(heaps, bit(6, 7));
        Due.is("32, 16, 8, 4, 2", heaps.fold(0, bit(2, 3, 4, 5, 6), 0), 0);
        Due.is("56 and 4, 2, 1", heaps.fold(0, bit(1, 2, 3, 8), 0), 0);
        noFold(heaps, bit(2, 3, 4, 8));
        // the last version of all counts, too
        heaps = Due.of(FULL);
        noFold(heaps, bit(1, 11));
        Due.is("63 and none", heaps.fold(0, bit(0, 11), 10), 0);
    }

    // Terms 4: FOLD, "MELDED one behind the other in an order", "of several the first by rows"
    private static void foldByRows() {
        PastHeaps heaps = Due.of("put 0 5;put 0 4;put 0 4;");
        // of like keys the lesser thing is least
        fold(heaps, bit(1, 2, 3), 0, 1, 3, 2);
        heaps = Due.of("put 0 4;put 0 8;put 0 4;put 0 2;put 0 1;");
        fold(heaps, bit(1, 2, 3, 4, 5), 0, 1, 2, 3, 4, 5);
        heaps = Due.of("put 0 4;put 0 8;put 0 1;put 0 2;put 0 2;");
        fold(heaps, bit(1, 2, 3, 4, 5), 0, 1, 2, 4, 5, 3);
        // 5 is 4:5 over 1:7, 1 is 0:0, 4 is 3:1: these two are one tree where the others are one of four
        heaps = Due.of("put 0 0;put 0 7;put 0 9;put 0 1;put 2 5;");
        fold(heaps, bit(1, 2, 3, 4, 5), 0, 2, 3, 1, 5, 4);
        // where all make as many: two trees of 2, and one of 1 with the greatest key
        heaps = Due.of("put 0 4;put 1 1;put 0 9;put 0 5;");
        fold(heaps, bit(1, 2, 3, 4), 2, 1, 2, 3, 4);
    }

    // Terms 4: "DEAREST: the two VERSIONS (the first one not above the second one) .. (SIZES of 63 together at most)"
    private static void dearestOfEdges() {
        dearest("less 0;", 0, 0);
        dearest("new;new;", 0, 0);
        dearest("put 0 1;", 1, 1);
        dearest("put 0 1;put 0 2;", 1, 1);
        dearest("put 0 1;put 1 2;", 1, 1);
        dearest("put 0 1;put 1 2;put 2 3;", 1, 3);
        dearest("put 0 1;put 1 2;put 2 3;put 0 4;", 1, 3);
        dearest("put 0 1;put 1 2;put 2 3;less 3;less 4;put 4 4;put 6 5;put 7 5;put 8 5;", 3, 8);
        // 7 and 1 link three times, as 7 and 7 do
        dearest("new;put 1 1;put 2 2;put 3 3;put 4 4;put 5 5;put 6 6;put 7 7;", 2, 8);
        // 31 and 1 link five times; 63 and 1 would six times, but are more than 63
        String doubled = "put 0 1;meld 1 1;meld 2 2;meld 3 3;meld 4 4;meld 5 4;meld 6 3;meld 7 2;meld 8 1;";
        dearest(doubled, 1, 9);
        dearest(doubled + "meld 5 5;meld 10 9;", 1, 9);
        dearest(FULL, 1, 1);
        // 32 and 32 would link once, but are more than 63
        dearest("put 0 1;meld 1 1;meld 2 2;meld 3 3;meld 4 4;meld 5 5;less 1;", 1, 1);
        PastHeaps heaps = Due.of("put 0 1;");
        for (int row : new int[] {1, 4, -1, MIN, MAX}) {
            Due.is("no row", heaps.dearest(row, false), NONE);
            Due.is("no row", heaps.dearest(row, true), NONE);
        }
    }

    private static void dearest(String text, int first, int second) {
        PastHeaps heaps = Due.of(text);
        Due.is("dearest of " + text, heaps.dearest(0, false), first);
        Due.is("dearest of " + text, heaps.dearest(0, true), second);
    }

    // Terms 4: "BELOW a KEY: how many": any key may be asked
    private static void belowOfEdges() {
        PastHeaps heaps = Due.of("put 0 0;put 1 5;put 2 5;put 3 99;meld 4 4;");
        int[][] due = {{MIN, 0}, {-1, 0}, {0, 0}, {1, 1}, {4, 1}, {5, 1}, {6, 3}, {98, 3}, {99, 3}, {100, 4}, {MAX, 4}};
        for (int[] one : due) {
            Due.is("below " + one[0], heaps.below(0, 4, one[0]), one[1]);
            Due.is("each as often " + one[0], heaps.below(0, 5, one[0]), 2 * one[1]);
            Due.is("of the empty one", heaps.below(0, 0, one[0]), 0);
        }
        Due.is("all of 63", Due.of(FULL).below(0, 11, 2), 63);
    }

    // Terms 4: "AGES: of a thing the first and the last VERSION which has it"; promise 27: "NONE: none"
    private static void agesOfEdges() {
        PastHeaps heaps = Due.of("put 0 5;put 1 6;less 2;new;put 0 7;meld 1 0;less 5;less 0;put 0 9;");
        int[][] due = {{1, 6}, {2, 3}, {5, 5}, {NONE, NONE}};
        for (int thing = 0; thing < due.length; thing++) {
            Due.is("first " + thing, heaps.age(0, thing, false), due[thing][0]);
            Due.is("last " + thing, heaps.age(0, thing, true), due[thing][1]);
        }
        for (int thing : new int[] {4, 39, 40, 127, 128, 129, 256, -1, -2, -128, MIN, MAX}) {
            Due.is("no thing " + thing, heaps.age(0, thing, false), NONE);
            Due.is("no thing " + thing, heaps.age(0, thing, true), NONE);
        }
        heaps = Due.of(Due.times(39, "new;") + "put 0 5;");
        Due.is("the last version", heaps.age(0, 0, false), 40);
        Due.is("the last version", heaps.age(0, 0, true), 40);
        Due.is("no thing", Due.of("new;").age(0, 0, true), NONE);
    }

    // Terms 4: "LOWEST: of all VERSIONS the least KEY that a thing has"; promise 28: "NONE: no VERSION has it"
    private static void lowestOfEdges() {
        PastHeaps heaps = Due.of("put 0 5;put 1 99;put 0 0;lower 2 0 2;lower 2 0 4;lower 4 1 98;lower 3 2 0;less 0;lower 7 2 0;");
        int[] due = {2, 98, 0, NONE};
        for (int thing = 0; thing < due.length; thing++) {
            Due.is("lowest " + thing, heaps.lowest(0, thing), due[thing]);
        }
        for (int thing : new int[] {4, 39, 40, 127, 128, 130, -1, -126, MIN, MAX}) {
            Due.is("no thing " + thing, heaps.lowest(0, thing), NONE);
        }
        // the least one, be it made first, last or in the midst
        heaps = Due.of("put 0 5;lower 1 0 2;lower 1 0 4;put 0 3;lower 4 1 1;lower 4 1 0;lower 4 1 2;put 0 9;lower 8 2 8;");
        Due.is("lowest", heaps.lowest(0, 0), 2);
        Due.is("lowest", heaps.lowest(0, 1), 0);
        Due.is("lowest", heaps.lowest(0, 2), 8);
        // of keys that would be, or behind STOP, there is none
        heaps = Due.of("put 0 5;less 0;lower 1 0 1;");
        heaps.would(0, 1, 4, 0, 0, false);
        heaps.drawn(0, 1, 3, 30, 0);
        Due.is("lowest", heaps.lowest(0, 0), 5);
        Due.is("no further thing", heaps.lowest(0, 1), NONE);
        Due.is("no further thing", heaps.age(0, 1, false), NONE);
    }

    // Terms 4: "OVER c: the first act whose PAID is above c"; promise 29: "NONE: none"
    private static void overOfEdges() {
        // less 3 links 2:7 with 1:6
        PastHeaps heaps = Due.of("put 0 5;put 1 6;put 2 7;less 3;new;meld 5 1;put 6 9;less 0;put 0 1;");
        int[] paid = {1, 1, 1, 0, 0, 0, 1};
        for (int k = 0; k < paid.length; k++) {
            Due.is("paid " + k, heaps.did(0, k, 2), paid[k]);
        }
        int[][] due = {{MIN, 0}, {-1, 0}, {0, 0}, {1, NONE}, {2, NONE}, {MAX, NONE}};
        for (int[] one : due) {
            Due.is("over " + one[0], heaps.over(0, one[0]), one[1]);
        }
        // pays 0, 1, -1, 0
        heaps = Due.of("new;put 1 5;less 2;new;");
        int[][] others = {{MIN, 0}, {-2, 0}, {-1, 0}, {0, 1}, {1, NONE}};
        for (int[] one : others) {
            Due.is("over " + one[0], heaps.over(0, one[0]), one[1]);
        }
        // an act that can't be is not paid
        heaps = Due.of("less 0;put 0 1;");
        Due.is("no act", heaps.over(0, MIN), NONE);
        Due.is("no act", heaps.over(0, -1), NONE);
        // the last of forty; it pays 2: eight in one tree
        heaps = Due.of("put 0 1;meld 1 1;meld 2 2;meld 3 3;" + Due.times(35, "new;") + "less 4;");
        Due.is("the last one", heaps.over(0, 1), 39);
        Due.is("none above 2", heaps.over(0, 2), NONE);
    }

    // Promise 30: "from a VERSION on k times, 1 to 30"; "-2: .. another k, or for another what"
    private static void drawnOfEdges() {
        PastHeaps heaps = Due.of("put 0 5;put 1 3;");
        for (int k : new int[] {0, -1, -30, 31, 32, 100, MIN, MAX}) {
            for (int what = 0; what < 4; what++) {
                Due.is("another k", heaps.drawn(0, 2, 7, k, what), -2);
            }
        }
        for (int what : new int[] {-1, -2, 4, 5, MIN, MAX}) {
            Due.is("another what", heaps.drawn(0, 2, 7, 1, what), -2);
            Due.is("another what", heaps.drawn(0, 2, 7, 30, what), -2);
        }
        Due.is("1", heaps.drawn(0, 2, 7, 1, 0) != -2, true);
        Due.is("30", heaps.drawn(0, 2, 7, 30, 0) != -2, true);
        Due.is("nothing is made", heaps.all(0, false), 3);
        Due.is("nothing is put", heaps.all(0, true), 2);
        // seed 0 from an empty heap: 0 is drawn, but it is empty: put 36; then less: it is empty, no key is least
        int[] one = {1, 0, 36, 1};
        int[] two = {0, 0, NONE, 1};
        for (int what = 0; what < 4; what++) {
            Due.is("put", heaps.drawn(0, 0, 0, 1, what), one[what]);
            Due.is("put and less", heaps.drawn(0, 0, 0, 2, what), two[what]);
        }
    }

    /** The keys that are in it, drawn with numbers that never wrap; then how many were put. */
    private static List<Integer> drawnKeys(List<Integer> from, int seed, int k) {
        List<Integer> keys = new ArrayList<>(from);
        Collections.sort(keys);
        long x = seed & 0xffffffffL;
        int puts = 0;
        for (int i = 0; i < k; i++) {
            x = (x * 1103515245L + 12345L) % 4294967296L;
            if (x / 65536 % 3 == 0 && !keys.isEmpty()) {
                keys.remove(0);
            } else if (keys.size() < 63) {
                x = (x * 1103515245L + 12345L) % 4294967296L;
                keys.add((int) (x / 65536 % 100));
                Collections.sort(keys);
                puts++;
            }
        }
        keys.add(puts);
        return keys;
    }

    private static void drawn(PastHeaps heaps, int version, List<Integer> from, int seed, int k) {
        List<Integer> keys = drawnKeys(from, seed, k);
        int size = keys.size() - 1;
        String of = "drawn " + version + " " + seed + " " + k + " ";
        Due.is(of + "size", heaps.drawn(0, version, seed, k, 0), size);
        Due.is(of + "least key", heaps.drawn(0, version, seed, k, 2), size == 0 ? NONE : keys.get(0));
        int links = heaps.drawn(0, version, seed, k, 1);
        Due.is(of + "made by puts and links", heaps.drawn(0, version, seed, k, 3), links + keys.get(size));
    }

    // Terms 4: "x * 1103515245 + 12345 (of 32 bits), .. shifted right by 16 without sign"
    private static void drawnOfSeeds() {
        int[] seeds = {0, 1, -1, 2, MIN, MAX, MIN + 1, MAX - 1, 65535, 65536, -65536, 12345, 1103515245, -1103515245};
        for (int seed : seeds) {
            PastHeaps heaps = Due.of("put 0 50;put 1 0;put 2 99;new;");
            for (int k : new int[] {1, 2, 3, 10, 29, 30}) {
                drawn(heaps, 0, List.of(), seed, k);
                drawn(heaps, 1, List.of(50), seed, k);
                drawn(heaps, 3, List.of(50, 0, 99), seed, k);
                drawn(heaps, 4, List.of(), seed, k);
            }
        }
    }

    // Terms 4: "(if it would be more than 63: nothing)"
    private static void drawnOfFull() {
        for (int seed = -20; seed < 20; seed++) {
            PastHeaps heaps = Due.of(FULL);
            for (int k : new int[] {1, 2, 5, 30}) {
                drawn(heaps, 11, Collections.nCopies(63, 1), seed, k);
                drawn(heaps, 10, Collections.nCopies(62, 1), seed, k);
                drawn(heaps, 9, Collections.nCopies(60, 1), seed, k);
            }
        }
    }

    private static void looked(PastHeaps heaps, int version, int... due) {
        for (int k = 0; k < due.length; k++) {
            Due.is("looked " + version + " " + k, heaps.looked(0, version, k, false), due[k]);
        }
        for (int k : new int[] {due.length, due.length + 1, 64, -1, -2, MIN, MAX}) {
            Due.is("looked " + version + " " + k, heaps.looked(0, version, k, false), NONE);
            Due.is("sum " + version + " " + k, heaps.looked(0, version, k, true), NONE);
        }
    }

    // Terms 5: LOOKED, "roots are on a list at first", "(of one thing the first in the WALK)"; promise 31: "0 .. SIZE"
    private static void lookedOfEdges() {
        // 3 is 0:5 and 0:5 over 1:8; 4 is 0:5 over (0:5 over 1:8) and 1:8
        PastHeaps heaps = Due.of("put 0 5;put 1 8;meld 1 2;meld 2 2;meld 4 1;");
        looked(heaps, 0, 0);
        looked(heaps, 1, 1, 1);
        looked(heaps, 2, 1, 2, 2);
        looked(heaps, 3, 2, 2, 3, 3);
        looked(heaps, 4, 1, 3, 4, 4, 4);
        // 0:5 alone is the first one; then the root of four, then 0:5 below it, each place by itself
        looked(heaps, 5, 2, 2, 4, 5, 5, 5);
        // of like keys the lesser thing, though it is behind in the walk: 2:5 alone, and 0:5 over 1:6
        heaps = Due.of("put 0 5;put 1 6;put 2 5;");
        looked(heaps, 3, 2, 3, 3, 3);
        heaps = Due.of("put 0 5;put 1 6;put 2 4;");
        looked(heaps, 3, 2, 2, 3, 3);
        heaps = Due.of(FULL);
        Due.is("six roots", heaps.looked(0, 11, 0, false), 6);
        Due.is("all", heaps.looked(0, 11, 63, false), 63);
        Due.is("no more", heaps.looked(0, 11, 64, false), NONE);
    }

    // Terms 5: "SUM of the k first: their KEYS together"
    private static void sumOfEdges() {
        PastHeaps heaps = Due.of("put 0 99;put 1 0;put 2 7;meld 3 3;");
        int[] three = {0, 0, 7, 106};
        int[] six = {0, 0, 0, 7, 14, 113, 212};
        for (int k = 0; k < six.length; k++) {
            Due.is("sum of three " + k, heaps.looked(0, 3, k, true), k < 4 ? three[k] : NONE);
            Due.is("sum of six " + k, heaps.looked(0, 4, k, true), six[k]);
        }
        Due.is("of an empty one", heaps.looked(0, 0, 0, true), 0);
        Due.is("of an empty one", heaps.looked(0, 0, 1, true), NONE);
        heaps = Due.of(FULL.replace("put 0 1", "put 0 99"));
        Due.is("of 63", heaps.looked(0, 11, 63, true), 63 * 99);
        Due.is("of more", heaps.looked(0, 11, 64, true), NONE);
    }

    // Terms 5: WAY, "of all VERSIONS on it but the first one", "(by meld of one with itself two)"; promise 32
    private static void wayOfEdges() {
        // links: 0, 1, 0, 1, 2, 0, 0; version 5 is meld 3 3 (2 links), 4 is less 3 (1 link)
        PastHeaps heaps = Due.of("put 0 5;put 1 3;put 2 8;less 3;meld 3 3;new;meld 6 6;meld 1 7;meld 2 4;meld 5 0;");
        long[][] due = {{0, 0, 0, 1}, {5, 5, 0, 1}, {0, 1, 0, 1}, {1, 2, 1, 1}, {2, 3, 0, 1}, {0, 5, 3, 2}, {3, 5, 2, 2},
            {0, 6, NONE, NONE}, {6, 6, 0, 1}, {6, 7, 0, 2}, {6, 8, 0, 2}, {0, 8, 0, 1}, {1, 8, 0, 1}, {7, 8, 0, 1},
            {5, 3, NONE, NONE}, {3, 0, NONE, NONE}, {4, 5, NONE, NONE}, {0, 10, 3, 3}};
        for (long[] one : due) {
            String of = "way " + one[0] + " " + one[1];
            Due.is(of, heaps.way(0, (int) one[0], (int) one[1], false), one[2]);
            Due.is(of + " many", heaps.way(0, (int) one[0], (int) one[1], true), one[3]);
        }
        // to 9, the meld of 2 and 4: by 2 alone, or by 2, 3 and 4, with one link more
        long links = heaps.did(0, 8, 1);
        Due.is("the most", heaps.way(0, 2, 9, false), 1 + links);
        Due.is("two ways", heaps.way(0, 2, 9, true), 2);
        Due.is("the most", heaps.way(0, 0, 9, false), 2 + links);
        // of ways by a version that does not come from the first one there are none, whatever was asked before
        heaps = Due.of("put 0 5;put 0 6;meld 1 2;");
        Due.is("by 1 and by 2", heaps.way(0, 0, 3, true), 2);
        Due.is("from 2", heaps.way(0, 2, 3, true), 1);
        Due.is("from 1", heaps.way(0, 1, 3, true), 1);
        StringBuilder doubled = new StringBuilder();
        for (int k = 0; k < 40; k++) {
            doubled.append("meld ").append(k).append(' ').append(k).append(';');
        }
        heaps = Due.of(doubled.toString());
        for (int v = 0; v <= 40; v++) {
            Due.is("two each", heaps.way(0, 0, v, true), 1L << v);
            Due.is("no links", heaps.way(0, 0, v, false), 0);
        }
    }

    // Terms 5: "TWICE: how many things are in a VERSION more than once"
    private static void twiceOfEdges() {
        // 3 has 0:5 and 0:3, 4 has 0:5 three times, 6 has 0 and 1 twice each, 7 has 0 alone twice
        PastHeaps heaps = Due.of("put 0 5;lower 1 0 3;meld 1 2;meld 3 1;put 0 7;put 1 8;meld 6 1;meld 6 6;new;");
        int[] due = {0, 0, 0, 1, 1, 0, 0, 1, 2, 0};
        for (int v = 0; v < due.length; v++) {
            Due.is("twice " + v, heaps.twice(0, v, false), due[v]);
        }
        Due.is("63 times", Due.of(FULL).twice(0, 11, false), 1);
    }

    // Terms 5: "FRESH: NODES a VERSION holds that none of its PARENTS holds"
    private static void freshOfEdges() {
        // 1 has node 0, 2 has 2 and 0; 3 comes from none; 4 and 5 hold what 1 and 2 do; 6 is their meld: 3, and 2, 0, 0
        PastHeaps heaps = Due.of("put 0 5;put 1 3;new;meld 1 0;meld 3 2;meld 1 2;meld 2 1;lower 2 1 3;put 1 9;less 9;");
        int[] due = {0, 1, 1, 0, 0, 0, 0, 0, 1, 2, 0};
        for (int v = 0; v < due.length; v++) {
            Due.is("fresh " + v, heaps.twice(0, v, true), due[v]);
        }
        // what a version has of one parent alone is not fresh, be it the first one or the second one
        heaps = Due.of("put 0 1;put 0 2;put 2 3;meld 1 3;meld 3 1;meld 3 3;");
        Due.is("of both", heaps.twice(0, 4, true), 0);
        Due.is("of both", heaps.twice(0, 5, true), 0);
        Due.is("with itself", heaps.twice(0, 6, true), 1);
    }

    // Terms 5: "TALLEST of two: the greatest RANK of a NODE both hold"; promise 34: "NONE: they hold none both"
    private static void tallestOfEdges() {
        PastHeaps heaps = Due.of(FULL + "new;put 12 5;less 6;");
        int[][] due = {{0, 0, NONE}, {0, 11, NONE}, {1, 1, 0}, {1, 2, 0}, {2, 2, 1}, {6, 11, 5}, {11, 11, 5}, {5, 11, 4},
            {1, 12, NONE}, {13, 13, 0}, {13, 1, NONE}, {14, 6, 4}, {14, 11, 4}, {12, 12, NONE}};
        for (int[] one : due) {
            Due.is("tallest " + one[0] + " " + one[1], heaps.tallest(0, one[0], one[1]), one[2]);
            Due.is("tallest " + one[1] + " " + one[0], heaps.tallest(0, one[1], one[0]), one[2]);
        }
    }

    // Terms 5: FORGET, "all others being PINNED"; promise 35: "n NODES, 0 at least. NONE: by none"
    private static void forgetOfEdges() {
        PastHeaps heaps = Due.of(SHARED);
        // alone: 2 has node 1, 7 has node 4; 1, 4 and 5 have node 0; 3, 4 and 5 have 2 and 3
        long[][] due = {{bit(2), 0, 0}, {bit(2), 1, bit(2)}, {bit(2), 2, NONE}, {bit(1), 1, NONE}, {bit(4, 5), 1, NONE},
            {bit(1, 4, 5), 1, bit(1, 4, 5)}, {bit(1, 4, 5), 2, NONE}, {bit(3, 4, 5), 2, bit(3, 4, 5)},
            {bit(3, 4, 5), 3, NONE}, {bit(1, 3, 4, 5), 2, bit(3, 4, 5)}, {bit(1, 3, 4, 5), 3, bit(1, 3, 4, 5)},
            {bit(0, 6), 0, 0}, {bit(0, 6), 1, NONE}, {0, 0, 0}, {0, 1, NONE}, {bit(0, 1, 2, 3, 4, 5, 6, 7), 5,
            bit(1, 2, 3, 4, 5, 7)}, {bit(0, 1, 2, 3, 4, 5, 6, 7), 6, NONE}};
        for (long[] one : due) {
            Due.is("forget " + one[0] + " " + one[1], heaps.forget(0, one[0], (int) one[1]), one[2]);
        }
        for (int n : new int[] {-1, -2, MIN}) {
            Due.is("n below 0", heaps.forget(0, bit(2), n), NONE);
            Due.is("n below 0", heaps.forget(0, 0, n), NONE);
        }
        Due.is("by none", heaps.forget(0, 255, MAX), NONE);
        // a node that no version has is in none of the others
        heaps = Due.of("put 0 5;put 1 3;");
        Due.is("of one that none has", heaps.forget(0, bit(2), 1), 0);
        Due.is("and one more", heaps.forget(0, bit(2), 2), bit(2));
        Due.is("by none", heaps.forget(0, bit(2), 3), NONE);
        Due.is("all", heaps.forget(0, bit(0, 1, 2), 3), bit(1, 2));
    }

    // Terms 5: FORGET, "the fewest of them", "of several the least number (bits)"
    private static void forgetOfSeveral() {
        // 1, 2 and 3 have a node alone, 5 has two
        PastHeaps heaps = Due.of("put 0 1;put 0 2;put 0 3;put 0 4;put 4 5;");
        long[][] due = {{bit(1, 2, 3), 1, bit(1)}, {bit(2, 3), 1, bit(2)}, {bit(1, 2, 3), 2, bit(1, 2)},
            {bit(1, 2, 5), 2, bit(5)}, {bit(1, 2, 3, 5), 2, bit(5)}, {bit(1, 2, 3, 5), 3, bit(1, 5)},
            {bit(2, 3, 5), 3, bit(2, 5)}, {bit(1, 2, 3, 5), 4, bit(1, 2, 5)}, {bit(1, 2, 3, 5), 5, bit(1, 2, 3, 5)},
            {bit(1, 2, 3, 5), 6, NONE}, {bit(4), 1, bit(4)}};
        for (long[] one : due) {
            Due.is("forget " + one[0] + " " + one[1], heaps.forget(0, one[0], (int) one[1]), one[2]);
        }
    }

    // Terms 5: "FORGET of at most 12 VERSIONS"; promise 35: "they are more than 12"
    private static void forgetOfTwelve() {
        PastHeaps heaps = Due.of(Due.times(40, "put 0 5;"));
        long twelve = 4095L << 1;
        Due.is("12 of 12", heaps.forget(0, twelve, 12), twelve);
        Due.is("13 of 12", heaps.forget(0, twelve, 13), NONE);
        Due.is("11 of 12", heaps.forget(0, twelve, 11), twelve & ~bit(12));
        Due.is("of 13", heaps.forget(0, twelve | 1, 1), NONE);
        Due.is("of 13", heaps.forget(0, 8191L << 1, 0), NONE);
        Due.is("the last ones", heaps.forget(0, 4095L << 29, 2), bit(29, 30));
        Due.is("the last one", heaps.forget(0, bit(40), 1), bit(40));
        Due.is("few behind many", heaps.forget(0, bit(7), 1), bit(7));
        Due.is("all", heaps.forget(0, (1L << 41) - 1, 0), NONE);
    }

    // Promises 18, 19, 20, 24, 35: "there is none such (of any)", of bits
    private static void bitsOfNone() {
        PastHeaps heaps = Due.of("put 0 5;put 0 6;less 0;new;");
        for (int v : new int[] {3, 4, 5, 31, 32, 33, 34, 40, 41, 42, 62, 63}) {
            for (long bits : new long[] {1L << v, 1L << v | 6, 1L << v | 1}) {
                Due.is("kept " + v, heaps.kept(0, bits, false), NONE);
                Due.is("back " + v, heaps.kept(0, bits, true), NONE);
                Due.is("heavy " + v, heaps.heavy(0, bits), NONE);
                Due.is("cover " + v, heaps.cover(0, bits), NONE);
                Due.is("forget " + v, heaps.forget(0, bits, 0), NONE);
                Due.is("fold " + v, heaps.fold(0, bits, 0), NONE);
                Due.is("fold " + v, heaps.fold(0, bits, 10), NONE);
            }
        }
        for (long bits : new long[] {-1L, Long.MIN_VALUE, Long.MAX_VALUE, -2L, 8, 15}) {
            Due.is("kept " + bits, heaps.kept(0, bits, false), NONE);
            Due.is("heavy " + bits, heaps.heavy(0, bits), NONE);
            Due.is("cover " + bits, heaps.cover(0, bits), NONE);
            Due.is("forget " + bits, heaps.forget(0, bits, 0), NONE);
            Due.is("fold " + bits, heaps.fold(0, bits, 0), NONE);
        }
        Due.is("all there are", heaps.kept(0, 7, false), 2);
    }
}
