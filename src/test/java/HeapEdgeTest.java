/** The edges of links, melds, acts and what versions hold: Terms 2 and 3, promises 7 to 14. */
public final class HeapEdgeTest {
    private static final int NONE = PastHeaps.NONE;

    /** Versions 1 to 11 have 1, 2, 4, 8, 16, 32, 48, 56, 60, 62 and 63 nodes, all of one thing and key. */
    private static final String FULL =
        "put 0 1;meld 1 1;meld 2 2;meld 3 3;meld 4 4;meld 5 5;meld 6 5;meld 7 4;meld 8 3;meld 9 2;meld 10 1;";

    public static void main(String[] args) {
        linkOfLikes();
        linkOfCarried();
        meldOfThree();
        meldOfEmpty();
        thingsFromZeroOn();
        lessOfLikes();
        lessMeldsSecond();
        lowerToLike();
        lowerRises();
        lowerFirstInWalk();
        lowerOneWayAlone();
        cutStopsAtLike();
        noSuchVersionYet();
        moreThanSixtyThree();
        lessOfEmpty();
        lowerWithoutNode();
        firstThatCant();
        didOfEdges();
        paidOfMeld();
        allOfEdges();
        versionOfEdges();
        middles();
        gaps();
        orderOfLikes();
        walkOfEdges();
        rootsOfEdges();
        depthIsLeast();
        Due.finish("HeapEdgeTest");
    }

    /** Of each place in the walk: thing, key, rank, number, depth. */
    private static void walk(PastHeaps heaps, int version, int[][] due) {
        String of = "walk " + version + " ";
        Due.is(of + "size", heaps.version(0, version, 0), due.length);
        for (int k = 0; k < due.length; k++) {
            for (int what = 0; what < 5; what++) {
                Due.is(of + k + " " + what, heaps.walk(0, version, k, what), due[k][what]);
            }
        }
        Due.is(of + "behind", heaps.walk(0, version, due.length, 0), NONE);
    }

    private static void did(PastHeaps heaps, int k, int made, int links, int paid) {
        Due.is("made of " + k, heaps.did(0, k, 0), made);
        Due.is("links of " + k, heaps.did(0, k, 1), links);
        Due.is("paid of " + k, heaps.did(0, k, 2), paid);
    }

    private static void stop(String text, int due) {
        Due.is("stop of " + text, Due.of(text).stop(0), due);
    }

    // Terms 2: "of like ones the lesser thing"; "the second one's root, if it is LESSER, else the first one's"
    private static void linkOfLikes() {
        // 0 is 0:4, 1 is 1:4; each put links, with the lesser thing at the root
        PastHeaps heaps = Due.of("put 0 4;put 1 4;put 0 4;meld 3 1;meld 1 3;meld 1 1;");
        walk(heaps, 2, new int[][] {{0, 4, 1, 2, 0}, {1, 4, 0, 1, 1}});
        walk(heaps, 4, new int[][] {{0, 4, 1, 4, 0}, {2, 4, 0, 3, 1}});
        walk(heaps, 5, new int[][] {{0, 4, 1, 5, 0}, {2, 4, 0, 3, 1}});
        walk(heaps, 6, new int[][] {{0, 4, 1, 6, 0}, {0, 4, 0, 0, 1}});
        // of one thing with one key in two nodes the first one's is made anew: 2 is 0:5 over 1:8, 4 is 0:5 over 2:9
        heaps = Due.of("put 0 5;put 1 8;put 1 9;meld 2 3;meld 3 2;");
        walk(heaps, 4, new int[][] {{0, 5, 2, 5, 0}, {0, 5, 1, 4, 1}, {2, 9, 0, 3, 2}, {1, 8, 0, 1, 1}});
        walk(heaps, 5, new int[][] {{0, 5, 2, 6, 0}, {0, 5, 1, 2, 1}, {1, 8, 0, 1, 2}, {2, 9, 0, 3, 1}});
        // a key of one less goes before the lesser thing
        heaps = Due.of("put 0 1;put 1 0;");
        walk(heaps, 2, new int[][] {{1, 0, 1, 2, 0}, {0, 1, 0, 0, 1}});
        heaps = Due.of("put 0 98;put 1 99;");
        walk(heaps, 2, new int[][] {{0, 98, 1, 2, 0}, {1, 99, 0, 1, 1}});
    }

    // Terms 2: MELD, "of two they are LINKED, in this order": the carried one is the first one
    private static void linkOfCarried() {
        // 2 is 0:5 over 1:8; the carried one, 4 or 6, is 0:5 over 2:9
        PastHeaps heaps = Due.of("put 0 5;put 1 8;put 2 9;meld 1 3;meld 3 1;");
        walk(heaps, 3, new int[][] {{2, 9, 0, 3, 0}, {0, 5, 1, 2, 0}, {1, 8, 0, 1, 1}});
        walk(heaps, 4, new int[][] {{0, 5, 2, 5, 0}, {0, 5, 1, 2, 1}, {1, 8, 0, 1, 2}, {2, 9, 0, 3, 1}});
        walk(heaps, 5, new int[][] {{0, 5, 2, 7, 0}, {0, 5, 1, 2, 1}, {1, 8, 0, 1, 2}, {2, 9, 0, 3, 1}});
    }

    // Terms 2: MELD, "of three the carried one is the new HEAP's, the other two are LINKED and carried"
    private static void meldOfThree() {
        PastHeaps heaps = Due.of("put 0 1;put 1 2;put 2 3;put 0 4;put 4 5;put 5 6;meld 3 6;");
        walk(heaps, 3, new int[][] {{2, 3, 0, 3, 0}, {0, 1, 1, 2, 0}, {1, 2, 0, 1, 1}});
        walk(heaps, 6, new int[][] {{5, 6, 0, 7, 0}, {3, 4, 1, 6, 0}, {4, 5, 0, 5, 1}});
        walk(heaps, 7, new int[][] {{2, 3, 1, 8, 0}, {5, 6, 0, 7, 1},
            {0, 1, 2, 9, 0}, {3, 4, 1, 6, 1}, {4, 5, 0, 5, 2}, {1, 2, 0, 1, 1}});
        did(heaps, 6, 2, 2, 0);
    }

    // Terms 2: "of one it is the new HEAP's"
    private static void meldOfEmpty() {
        PastHeaps heaps = Due.of("put 0 1;put 1 2;put 2 3;meld 3 0;meld 0 3;meld 0 0;");
        for (int v = 3; v <= 5; v++) {
            walk(heaps, v, new int[][] {{2, 3, 0, 3, 0}, {0, 1, 1, 2, 0}, {1, 2, 0, 1, 1}});
        }
        did(heaps, 3, 0, 0, 0);
        did(heaps, 4, 0, 0, 0);
        walk(heaps, 6, new int[][] {});
        did(heaps, 5, 0, 0, 0);
    }

    // Terms 2: "a further thing (numbers from 0 on)", "They have numbers from 0 on as they are made"
    private static void thingsFromZeroOn() {
        PastHeaps heaps = Due.of("new;put 1 5;less 2;put 3 5;new;put 5 7;");
        walk(heaps, 2, new int[][] {{0, 5, 0, 0, 0}});
        walk(heaps, 4, new int[][] {{1, 5, 0, 1, 0}});
        walk(heaps, 6, new int[][] {{2, 7, 0, 2, 0}});
        Due.is("would puts nothing", heaps.would(0, 6, 1, 1, 0, false), 2);
        Due.is("drawn puts nothing", heaps.drawn(0, 6, 5, 30, 0) >= 0, true);
        Due.is("things", heaps.all(0, true), 3);
        Due.is("nodes", heaps.all(0, false), 3);
    }

    // Terms 2: less, "of several of one thing the first one"
    private static void lessOfLikes() {
        // of 0:5 alone and 0:5 over 1:8 the tree of rank 0 goes
        PastHeaps heaps = Due.of("put 0 5;put 1 8;meld 1 2;less 3;meld 2 1;less 5;");
        walk(heaps, 3, new int[][] {{0, 5, 0, 0, 0}, {0, 5, 1, 2, 0}, {1, 8, 0, 1, 1}});
        walk(heaps, 4, new int[][] {{0, 5, 1, 2, 0}, {1, 8, 0, 1, 1}});
        did(heaps, 3, 0, 0, -1);
        walk(heaps, 6, new int[][] {{0, 5, 1, 2, 0}, {1, 8, 0, 1, 1}});
        // of one thing that with the lesser key goes, though it is not the first one
        heaps = Due.of("put 0 5;put 1 8;lower 2 0 4;meld 1 3;less 4;");
        walk(heaps, 4, new int[][] {{0, 5, 0, 0, 0}, {0, 4, 1, 3, 0}, {1, 8, 0, 1, 1}});
        walk(heaps, 5, new int[][] {{0, 5, 1, 4, 0}, {1, 8, 0, 1, 1}});
        // of like keys the lesser thing goes, though it is not the first one
        heaps = Due.of("put 0 5;put 1 6;put 2 5;less 3;");
        walk(heaps, 3, new int[][] {{2, 5, 0, 3, 0}, {0, 5, 1, 2, 0}, {1, 6, 0, 1, 1}});
        walk(heaps, 4, new int[][] {{2, 5, 1, 4, 0}, {1, 6, 0, 1, 1}});
    }

    // Terms 2: less, "TREES below its root, the least RANK first, are a HEAP, that is MELDED with the rest, as the second"
    private static void lessMeldsSecond() {
        // 8 is 4:1 over 4 (0:5 over 2:9) and 5 (3:7); the rest is 2 (0:5 over 1:8): of the likes 2 is made anew
        PastHeaps heaps = Due.of("put 0 5;put 1 8;put 1 9;put 3 7;put 4 1;meld 2 5;less 6;");
        walk(heaps, 5, new int[][] {{4, 1, 2, 8, 0}, {0, 5, 1, 4, 1}, {2, 9, 0, 3, 2}, {3, 7, 0, 5, 1}});
        walk(heaps, 7, new int[][] {{3, 7, 0, 5, 0},
            {0, 5, 2, 9, 0}, {0, 5, 1, 4, 1}, {2, 9, 0, 3, 2}, {1, 8, 0, 1, 1}});
        did(heaps, 6, 1, 1, 1);
        // the last one: nothing is left
        heaps = Due.of("put 0 5;less 1;");
        walk(heaps, 2, new int[][] {});
        did(heaps, 1, 0, 0, -1);
    }

    // Terms 2: lower, "with the KEY above KEY, or like it", made anew though nothing changes
    private static void lowerToLike() {
        PastHeaps heaps = Due.of("put 0 5;put 1 8;lower 2 0 5;lower 2 1 8;lower 2 0 0;lower 1 0 5;");
        walk(heaps, 3, new int[][] {{0, 5, 1, 3, 0}, {1, 8, 0, 1, 1}});
        walk(heaps, 4, new int[][] {{0, 5, 1, 4, 0}, {1, 8, 0, 5, 1}});
        walk(heaps, 5, new int[][] {{0, 0, 1, 6, 0}, {1, 8, 0, 1, 1}});
        walk(heaps, 6, new int[][] {{0, 5, 0, 7, 0}});
        did(heaps, 2, 1, 0, 0);
        did(heaps, 3, 2, 0, 0);
        did(heaps, 4, 1, 0, 0);
        stop("put 0 5;lower 1 0 6;", 1);
        stop("put 0 99;lower 1 0 99;", 2);
        stop("put 0 0;lower 1 0 0;lower 2 0 1;", 2);
    }

    // Terms 2: lower, "so long as it is LESSER than the one above it"
    private static void lowerRises() {
        // of like keys it rises above the greater thing, not above the lesser one
        PastHeaps heaps = Due.of("put 0 5;put 1 8;lower 2 1 5;lower 2 1 4;put 0 7;put 5 6;put 0 9;meld 6 7;");
        walk(heaps, 3, new int[][] {{0, 5, 1, 3, 0}, {1, 5, 0, 4, 1}});
        walk(heaps, 4, new int[][] {{1, 4, 1, 5, 0}, {0, 5, 0, 6, 1}});
        heaps = Due.of("put 0 9;put 1 5;lower 2 0 5;lower 2 0 6;");
        walk(heaps, 2, new int[][] {{1, 5, 1, 2, 0}, {0, 9, 0, 0, 1}});
        walk(heaps, 3, new int[][] {{0, 5, 1, 3, 0}, {1, 5, 0, 4, 1}});
        walk(heaps, 4, new int[][] {{1, 5, 1, 5, 0}, {0, 6, 0, 6, 1}});
        // up by two, and by one alone: 4 is 3:4, 5 is 2:3 over it, 6 is 0:1 over 5 and 1 (1:2)
        heaps = Due.of("put 0 1;put 1 2;put 2 3;put 3 4;lower 4 3 0;lower 4 3 2;lower 4 3 3;lower 4 3 4;");
        walk(heaps, 5, new int[][] {{3, 0, 2, 7, 0}, {0, 1, 1, 8, 1}, {2, 3, 0, 9, 2}, {1, 2, 0, 1, 1}});
        walk(heaps, 6, new int[][] {{0, 1, 2, 10, 0}, {3, 2, 1, 11, 1}, {2, 3, 0, 12, 2}, {1, 2, 0, 1, 1}});
        walk(heaps, 7, new int[][] {{0, 1, 2, 13, 0}, {2, 3, 1, 14, 1}, {3, 3, 0, 15, 2}, {1, 2, 0, 1, 1}});
        walk(heaps, 8, new int[][] {{0, 1, 2, 16, 0}, {2, 3, 1, 17, 1}, {3, 4, 0, 18, 2}, {1, 2, 0, 1, 1}});
        did(heaps, 4, 3, 0, 0);
        did(heaps, 7, 3, 0, 0);
    }

    // Terms 2: lower, "of the NODES of a thing that with the KEY above KEY, or like it, that is first in the WALK"
    private static void lowerFirstInWalk() {
        // 0 is 0:5, 1 is 0:3; version 3 is 0:3 alone and 0:5 over 0:5
        PastHeaps heaps = Due.of("put 0 5;meld 1 1;lower 1 0 3;meld 3 2;lower 4 0 4;lower 4 0 3;lower 4 0 5;");
        walk(heaps, 4, new int[][] {{0, 3, 0, 2, 0}, {0, 5, 1, 1, 0}, {0, 5, 0, 0, 1}});
        walk(heaps, 5, new int[][] {{0, 3, 0, 2, 0}, {0, 4, 1, 3, 0}, {0, 5, 0, 0, 1}});
        walk(heaps, 6, new int[][] {{0, 3, 0, 4, 0}, {0, 5, 1, 1, 0}, {0, 5, 0, 0, 1}});
        walk(heaps, 7, new int[][] {{0, 3, 0, 2, 0}, {0, 5, 1, 5, 0}, {0, 5, 0, 0, 1}});
        // first in the walk is the one below the first root, not the next root
        heaps = Due.of("put 0 5;put 1 3;put 1 8;meld 3 3;meld 2 4;lower 5 0 4;");
        walk(heaps, 5, new int[][] {{1, 3, 1, 2, 0}, {0, 5, 0, 0, 1},
            {0, 5, 2, 5, 0}, {0, 5, 1, 4, 1}, {2, 8, 0, 3, 2}, {2, 8, 0, 3, 1}});
        walk(heaps, 6, new int[][] {{1, 3, 1, 6, 0}, {0, 4, 0, 7, 1},
            {0, 5, 2, 5, 0}, {0, 5, 1, 4, 1}, {2, 8, 0, 3, 2}, {2, 8, 0, 3, 1}});
    }

    // Terms 2: lower, "all NODES of the way from the root to where it was are made anew": of a node in two places one
    private static void lowerOneWayAlone() {
        // 2 is 0:5 over 1:8; 3 is 0:5 over 2 and 1: node 1 stands below both
        PastHeaps heaps = Due.of("put 0 5;put 1 8;meld 2 2;lower 3 1 6;lower 3 1 4;");
        walk(heaps, 3, new int[][] {{0, 5, 2, 3, 0}, {0, 5, 1, 2, 1}, {1, 8, 0, 1, 2}, {1, 8, 0, 1, 1}});
        walk(heaps, 4, new int[][] {{0, 5, 2, 4, 0}, {0, 5, 1, 5, 1}, {1, 6, 0, 6, 2}, {1, 8, 0, 1, 1}});
        walk(heaps, 5, new int[][] {{1, 4, 2, 7, 0}, {0, 5, 1, 8, 1}, {0, 5, 0, 9, 2}, {1, 8, 0, 1, 1}});
        walk(heaps, 2, new int[][] {{0, 5, 1, 2, 0}, {1, 8, 0, 1, 1}});
    }

    // Terms 2: "cut: as less, so long as the least KEY is below KEY"
    private static void cutStopsAtLike() {
        PastHeaps heaps = Due.of("put 0 5;put 1 8;put 2 8;cut 3 5;cut 3 6;cut 3 8;cut 3 9;cut 3 0;cut 0 99;cut 9 99;");
        Due.is("stop", heaps.stop(0), 10);
        int[] sizes = {3, 2, 2, 0, 3, 0, 0};
        for (int i = 0; i < sizes.length; i++) {
            Due.is("size behind cut " + i, heaps.version(0, 4 + i, 0), sizes[i]);
        }
        did(heaps, 3, 0, 0, 0);
        did(heaps, 4, 1, 1, 0);
        did(heaps, 5, 1, 1, 0);
        did(heaps, 6, 1, 1, -1);
        did(heaps, 7, 0, 0, 0);
        did(heaps, 8, 0, 0, 0);
        // a key of 99 is never cut, one of 0 is by 1
        heaps = Due.of("put 0 99;cut 1 99;put 0 0;cut 3 0;cut 3 1;");
        Due.is("99 stays", heaps.version(0, 2, 0), 1);
        Due.is("0 stays", heaps.version(0, 4, 0), 1);
        Due.is("0 goes", heaps.version(0, 5, 0), 0);
        // all of 63 are cut
        heaps = Due.of(FULL + "cut 11 2;cut 11 1;");
        Due.is("all cut", heaps.version(0, 12, 0), 0);
        Due.is("none cut", heaps.version(0, 13, 0), 63);
        // a key that stood below it goes too: 0:1 is over 1:2, and 2:9 stays
        heaps = Due.of("put 0 1;put 1 2;put 2 9;cut 3 3;");
        walk(heaps, 4, new int[][] {{2, 9, 0, 3, 0}});
        did(heaps, 3, 1, 1, 0);
    }

    // Terms 2: "An act can't be, if there is no such VERSION yet"
    private static void noSuchVersionYet() {
        for (String act : new String[] {"put %d 5;", "meld %d 0;", "meld 0 %d;", "lower %d 0 0;", "cut %d 0;", "less %d;"}) {
            String two = "put 0 1;put 1 2;";
            stop(two + act.replace("%d", "2"), 3);
            stop(two + act.replace("%d", "3"), 2);
            stop(two + act.replace("%d", "3") + "new;", 2);
            stop(two + act.replace("%d", "4") + "new;new;", 2);
            stop(two + act.replace("%d", "40"), 2);
            stop("put 0 1;" + Due.times(38, "new;") + act.replace("%d", "40"), 39);
        }
        stop("put 0 1;", 1);
        stop("put 1 1;", 0);
        stop("cut 0 1;", 1);
        stop("cut 1 1;", 0);
        stop("meld 0 0;", 1);
        stop("meld 1 1;", 0);
        stop(Due.times(39, "new;") + "cut 39 0;", 40);
    }

    // Terms 2: ".. if a VERSION would have more than 63 NODES in its WALK"
    private static void moreThanSixtyThree() {
        Due.is("63 are in it", Due.of(FULL).version(0, 11, 0), 63);
        stop(FULL + "put 10 5;", 12);
        stop(FULL + "put 11 5;", 11);
        stop(FULL + "meld 11 0;", 12);
        stop(FULL + "meld 0 11;", 12);
        stop(FULL + "meld 11 1;", 11);
        stop(FULL + "meld 1 11;", 11);
        stop(FULL + "meld 10 1;", 12);
        stop(FULL + "meld 10 2;", 11);
        stop(FULL + "meld 6 6;", 11);
        stop(FULL + "meld 6 7;", 11);
        stop(FULL + "meld 11 11;", 11);
        stop(FULL + "less 11;put 12 5;put 13 5;", 13);
        stop(FULL + "lower 11 0 0;cut 12 1;put 13 5;put 14 5;", 14);
        // what can't be leaves nothing
        PastHeaps heaps = Due.of(FULL + "put 11 5;");
        Due.is("nodes", heaps.all(0, false), heaps.all(0, true) + linksOf(heaps, 11));
        Due.is("things", heaps.all(0, true), 1);
        Due.is("no such thing", heaps.age(0, 1, false), NONE);
    }

    private static int linksOf(PastHeaps heaps, int acts) {
        int links = 0;
        for (int k = 0; k < acts; k++) {
            links += heaps.did(0, k, 1);
        }
        return links;
    }

    // Terms 2: ".. less of an empty HEAP"
    private static void lessOfEmpty() {
        stop("less 0;", 0);
        stop("new;less 1;", 1);
        stop("put 0 1;less 1;less 2;", 2);
        stop("put 0 1;cut 1 2;less 2;", 2);
        stop("put 0 1;less 1;less 1;", 3);
    }

    // Terms 2: ".. or lower without such a NODE"
    private static void lowerWithoutNode() {
        stop("lower 0 0 0;", 0);
        stop("put 0 5;lower 1 1 0;", 1);
        stop("put 0 5;lower 1 39 0;", 1);
        stop("put 0 5;put 0 5;lower 1 1 0;", 2);
        stop("put 0 5;put 0 5;lower 2 1 0;", 3);
        stop("put 0 5;less 1;lower 2 0 0;", 2);
        stop("put 0 5;lower 1 0 6;", 1);
        stop("put 0 5;lower 1 0 99;", 1);
        // one of two nodes of the thing suffices, and its key counts, not that of another thing
        stop("put 0 5;lower 1 0 3;meld 2 1;lower 3 0 5;", 4);
        stop("put 0 5;lower 1 0 3;meld 2 1;lower 3 0 6;", 3);
        stop("put 0 5;put 1 9;lower 2 0 6;", 2);
    }

    // Terms 2, promise 7: "STOP: the first act that can't be, else how many there are"; "NONE: there is none such"
    private static void firstThatCant() {
        stop("new;", 1);
        stop("less 0;new;new;", 0);
        stop("new;less 0;less 0;", 1);
        stop("put 0 1;less 0;put 1 1;", 1);
        stop(Due.times(40, "new;"), 40);
        stop(Due.times(39, "new;") + "less 0;", 39);
        PastHeaps heaps = Due.of("put 0 5;less 0;put 1 6;");
        Due.is("the last version", heaps.version(0, 1, 0), 1);
        Due.is("no version behind STOP", heaps.version(0, 2, 0), -2);
        Due.is("no version behind STOP", heaps.version(0, 3, 0), -2);
        Due.is("things up to STOP", heaps.all(0, true), 1);
        Due.is("nodes up to STOP", heaps.all(0, false), 1);
        for (int row : new int[] {1, 4, -1, Integer.MIN_VALUE, Integer.MAX_VALUE}) {
            Due.is("no row", heaps.stop(row), NONE);
        }
        Due.is("no row", new PastHeaps().stop(0), NONE);
    }

    // Promise 8: "Of an act up to STOP", "-100000: there is none such (of either), or for another what"
    private static void didOfEdges() {
        PastHeaps heaps = Due.of("put 0 5;put 1 3;less 0;put 2 1;");
        did(heaps, 0, 1, 0, 1);
        did(heaps, 1, 2, 1, 1);
        for (int k : new int[] {2, 3, 4, 40, -1, -2, Integer.MIN_VALUE, Integer.MAX_VALUE}) {
            did(heaps, k, -100000, -100000, -100000);
        }
        for (int what : new int[] {-2, -1, 3, 4, Integer.MIN_VALUE, Integer.MAX_VALUE}) {
            Due.is("another what", heaps.did(0, 0, what), -100000);
        }
        for (int row : new int[] {1, 4, -1, Integer.MIN_VALUE, Integer.MAX_VALUE}) {
            Due.is("no row", heaps.did(row, 0, 0), -100000);
        }
        heaps = Due.of(Due.times(39, "new;") + "put 0 5;");
        did(heaps, 39, 1, 0, 1);
        did(heaps, 40, -100000, -100000, -100000);
        did(Due.of("less 0;"), 0, -100000, -100000, -100000);
    }

    // Terms 3: PAID, "less CREDITS of the VERSIONS it came from (of meld of both, of one with itself twice)"
    private static void paidOfMeld() {
        PastHeaps heaps = Due.of("put 0 5;put 1 6;put 2 7;meld 3 3;meld 3 1;meld 1 3;meld 1 1;new;less 4;");
        did(heaps, 3, 2, 2, 2 + 2 - 2 - 2);
        did(heaps, 4, 2, 2, 2 + 1 - 2 - 1);
        did(heaps, 5, 2, 2, 2 + 1 - 1 - 2);
        did(heaps, 6, 1, 1, 1 + 1 - 1 - 1);
        did(heaps, 7, 0, 0, 0);
        // version 4 is 2:7 over 2:7, and 0:5 over (0:5 over 1:6) and 1:6: the latter's root goes
        did(heaps, 8, 1, 1, 1 + 2 - 2);
        // of eight in one tree: less leaves three
        heaps = Due.of("put 0 1;meld 1 1;meld 2 2;meld 3 3;less 4;put 5 0;cut 6 1;cut 6 2;new;put 9 3;");
        did(heaps, 4, 0, 0, 3 - 1);
        did(heaps, 5, 4, 3, 3 + 1 - 3);
        did(heaps, 6, 0, 0, 3 - 1);
        Due.is("cut of all", heaps.did(0, 7, 2), heaps.did(0, 7, 1) - 1);
        did(heaps, 9, 1, 0, 1);
    }

    // Promise 9: "NONE: there is none such"
    private static void allOfEdges() {
        PastHeaps heaps = Due.of("less 0;put 0 5;");
        Due.is("no nodes", heaps.all(0, false), 0);
        Due.is("no things", heaps.all(0, true), 0);
        heaps = Due.of("new;");
        Due.is("no nodes", heaps.all(0, false), 0);
        Due.is("no things", heaps.all(0, true), 0);
        for (int row : new int[] {1, 4, -1, Integer.MIN_VALUE, Integer.MAX_VALUE}) {
            Due.is("no row", heaps.all(row, false), NONE);
            Due.is("no row", heaps.all(row, true), NONE);
        }
        // 40 puts: 40 nodes of their own, and 38 links
        StringBuilder puts = new StringBuilder();
        for (int k = 0; k < 40; k++) {
            puts.append("put ").append(k).append(" 9;");
        }
        heaps = Due.of(puts.toString());
        Due.is("nodes of 40", heaps.all(0, false), 78);
        Due.is("things of 40", heaps.all(0, true), 40);
        Due.is("the last thing", heaps.order(0, 40, 39, false), 39);
        // what would be is not in it, nor what is drawn
        heaps.would(0, 40, 1, 0, 0, false);
        heaps.drawn(0, 40, 1, 30, 0);
        heaps.fold(0, Due.bits(1, 2, 3), 0);
        Due.is("nodes of 40", heaps.all(0, false), 78);
        Due.is("things of 40", heaps.all(0, true), 40);
    }

    // Promise 10: "MIDDLE (NONE of an empty one)", "GAP (0 without two)", "the greatest RANK (NONE)", another what -2
    private static void versionOfEdges() {
        PastHeaps heaps = Due.of("put 0 7;new;");
        int[][] due = {{0, 0, 0, 0, NONE, 0, NONE}, {1, 1, 1, 1, 0, 0, 0}, {0, 0, 0, 0, NONE, 0, NONE}};
        for (int v = 0; v < due.length; v++) {
            for (int what = 0; what < 7; what++) {
                Due.is("version " + v + " " + what, heaps.version(0, v, what), due[v][what]);
            }
            for (int what : new int[] {-2, -1, 7, 8, Integer.MIN_VALUE, Integer.MAX_VALUE}) {
                Due.is("another what", heaps.version(0, v, what), -2);
            }
        }
        heaps = Due.of(FULL + "put 10 5;");
        Due.is("63", heaps.version(0, 11, 0), 63);
        Due.is("six trees", heaps.version(0, 11, 1), 6);
        Due.is("each once: one of a rank and way", heaps.version(0, 11, 2), heaps.kept(0, Due.bits(11), false));
        Due.is("one thing", heaps.version(0, 11, 4), 0);
        Due.is("no gap", heaps.version(0, 11, 5), 0);
        Due.is("the greatest rank", heaps.version(0, 11, 6), 5);
        Due.is("one tree", heaps.version(0, 6, 1), 1);
        Due.is("32 in six nodes", heaps.version(0, 6, 2), 6);
        Due.is("none of them its alone", heaps.version(0, 6, 3), 0);
        Due.is("the put one alone, the other ones shared", heaps.version(0, 12, 3), 1);
        Due.is("the greatest gap", heaps.version(0, 12, 5), 4);
    }

    // Terms 4: "MIDDLE: the thing in ORDER at SIZE / 2, cut"
    private static void middles() {
        PastHeaps heaps = Due.of("put 0 9;put 1 3;put 2 5;put 3 1;put 4 7;");
        // in order: 3:1, 1:3, 2:5, 4:7, 0:9
        int[] due = {NONE, 0, 0, 2, 2, 2};
        for (int v = 0; v < due.length; v++) {
            Due.is("middle of " + v, heaps.version(0, v, 4), due[v]);
        }
        // of likes the lesser thing is first: 0, 1 and 0, 1, 2
        heaps = Due.of("put 0 4;put 1 4;put 2 4;");
        Due.is("middle of two likes", heaps.version(0, 2, 4), 1);
        Due.is("middle of three likes", heaps.version(0, 3, 4), 1);
    }

    // Terms 4: "GAP: the greatest difference of KEYS of neighbours in ORDER"
    private static void gaps() {
        PastHeaps heaps = Due.of("put 0 0;put 1 99;put 2 50;put 3 98;put 4 51;put 0 4;put 6 4;");
        int[] due = {0, 0, 99, 50, 50, 50, 0, 0};
        for (int v = 0; v < due.length; v++) {
            Due.is("gap of " + v, heaps.version(0, v, 5), due[v]);
        }
        // first, last and in the midst
        heaps = Due.of("put 0 1;put 1 9;put 2 10;put 0 1;put 4 2;put 5 10;put 0 1;put 7 2;put 8 9;put 9 10;");
        Due.is("first", heaps.version(0, 3, 5), 8);
        Due.is("last", heaps.version(0, 6, 5), 8);
        Due.is("in the midst", heaps.version(0, 10, 5), 7);
    }

    // Terms 3: "ORDER: things in it by KEYS, then by numbers"; promise 11: "NONE: there is none such (of any)"
    private static void orderOfLikes() {
        PastHeaps heaps = Due.of("put 0 4;put 1 4;put 2 3;put 3 5;put 4 4;meld 5 1;");
        int[] things = {2, 0, 0, 1, 4, 3};
        int[] keys = {3, 4, 4, 4, 4, 5};
        for (int k = 0; k < things.length; k++) {
            Due.is("order " + k, heaps.order(0, 6, k, false), things[k]);
            Due.is("order " + k + " key", heaps.order(0, 6, k, true), keys[k]);
        }
        for (int k : new int[] {6, 7, 63, 64, -1, -2, Integer.MIN_VALUE, Integer.MAX_VALUE}) {
            Due.is("no such k", heaps.order(0, 6, k, false), NONE);
            Due.is("no such k", heaps.order(0, 6, k, true), NONE);
        }
        Due.is("empty", heaps.order(0, 0, 0, false), NONE);
        Due.is("empty", heaps.order(0, 0, 0, true), NONE);
        heaps = Due.of("put 0 0;");
        Due.is("thing 0", heaps.order(0, 1, 0, false), 0);
        Due.is("key 0", heaps.order(0, 1, 0, true), 0);
        heaps = Due.of(FULL);
        Due.is("the 63rd", heaps.order(0, 11, 62, true), 1);
        Due.is("no 64th", heaps.order(0, 11, 63, true), NONE);
    }

    // Promise 12: "NONE: there is none such (of any), or for another what"
    private static void walkOfEdges() {
        PastHeaps heaps = Due.of("put 0 4;put 1 5;put 2 6;");
        walk(heaps, 0, new int[][] {});
        walk(heaps, 3, new int[][] {{2, 6, 0, 3, 0}, {0, 4, 1, 2, 0}, {1, 5, 0, 1, 1}});
        for (int k : new int[] {3, 4, 63, -1, -2, Integer.MIN_VALUE, Integer.MAX_VALUE}) {
            for (int what = 0; what < 5; what++) {
                Due.is("no such k", heaps.walk(0, 3, k, what), NONE);
            }
        }
        for (int what : new int[] {5, 6, -1, -2, Integer.MIN_VALUE, Integer.MAX_VALUE}) {
            Due.is("another what", heaps.walk(0, 3, 1, what), NONE);
        }
        heaps = Due.of(FULL);
        // the last one of the tree of rank 5, right below its root
        int[] last = {0, 1, 0, 0, 1};
        for (int what = 0; what < 5; what++) {
            Due.is("the 63rd", heaps.walk(0, 11, 62, what), last[what]);
            Due.is("no 64th", heaps.walk(0, 11, 63, what), NONE);
        }
        // behind the roots of ranks 0 .. 4 with 31 nodes the root of rank 5, then five ways down
        Due.is("root of rank 5", heaps.walk(0, 11, 31, 2), 5);
        Due.is("five below", heaps.walk(0, 11, 36, 4), 5);
        Due.is("no rank", heaps.walk(0, 11, 36, 2), 0);
    }

    // Promise 13: "NONE: there is none such (of any)"
    private static void rootsOfEdges() {
        PastHeaps heaps = Due.of("put 0 4;put 1 5;put 2 6;");
        Due.is("rank 0", heaps.root(0, 1, 0), 0);
        Due.is("rank 0", heaps.root(0, 2, 0), NONE);
        Due.is("rank 1", heaps.root(0, 2, 1), 2);
        Due.is("rank 0", heaps.root(0, 3, 0), 3);
        Due.is("rank 1", heaps.root(0, 3, 1), 2);
        for (int rank : new int[] {2, 3, 4, 5, 6, 7, 63, -1, -2, Integer.MIN_VALUE, Integer.MAX_VALUE}) {
            Due.is("no rank " + rank, heaps.root(0, 3, rank), NONE);
        }
        for (int rank = 0; rank < 7; rank++) {
            Due.is("empty", heaps.root(0, 0, rank), NONE);
        }
        heaps = Due.of(FULL);
        for (int rank = 0; rank < 6; rank++) {
            Due.is("of all ranks " + rank, heaps.root(0, 11, rank), rank);
        }
        Due.is("none of rank 6", heaps.root(0, 11, 6), NONE);
    }

    // Terms 3: "DEPTH of a thing: the least way from a root (0)"; promise 14
    private static void depthIsLeast() {
        // version 3 is 0:5 over (0:5 over 1:8) and 1:8
        PastHeaps heaps = Due.of("put 0 5;put 1 8;meld 2 2;put 3 6;meld 4 4;");
        Due.is("a root", heaps.depth(0, 3, 0), 0);
        Due.is("the least of two", heaps.depth(0, 3, 1), 1);
        Due.is("not there", heaps.depth(0, 3, 2), NONE);
        Due.is("not there", heaps.depth(0, 1, 1), NONE);
        for (int thing : new int[] {3, 39, 40, 127, 128, 129, 256, -1, -128, Integer.MIN_VALUE, Integer.MAX_VALUE}) {
            Due.is("no thing " + thing, heaps.depth(0, 5, thing), NONE);
        }
        Due.is("empty", heaps.depth(0, 0, 0), NONE);
        // the walk tells the depth of each place
        Due.is("there", heaps.walk(0, 3, 2, 4), 2);
        Due.is("there", heaps.walk(0, 3, 3, 4), 1);
        // 2 is 0:1 over 1 (0:2 is thing 1): doubled four times, so that it stands five deep at most
        heaps = Due.of("put 0 1;put 0 2;meld 1 2;meld 3 3;meld 4 4;meld 5 5;meld 6 6;");
        Due.is("at the root's side", heaps.depth(0, 7, 1), 1);
        Due.is("in the deepest place", heaps.walk(0, 7, 5, 4), 5);
        Due.is("its thing", heaps.walk(0, 7, 5, 0), 1);
    }
}
