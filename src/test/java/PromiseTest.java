/** Each promise by answers worked out by hand from the document: ordinary ones, edges, wrong inputs. */
public final class PromiseTest {
    private static final int NONE = PastHeaps.NONE;

    /**
     * Nodes (thing:key): 0 is 0:5 (version 1); 1 is 1:3, held by none; 2 is 1:3 over 0; 3 is 2:8;
     * 4 is 0:5 over 3 (version 4); 5 is 2:8 over 3, 6 is 1:3 over 2 and 0 (version 5); 7 is 2:1 (version 6);
     * 8 is 0:5 over 3 (version 7); 9 is 3:1 (version 9).
     */
    private static final String BASE =
        "put 0 5;put 1 3;put 2 8;less 3;meld 3 3;lower 3 2 1;cut 3 4;new;put 8 1;";

    /** Of four things in one tree: lowered from the second level to the root, and without a rise. */
    private static final String LOWERS = "put 0 1;put 1 2;put 2 3;put 3 4;lower 4 3 0;lower 4 1 2;";

    /** Version 11 has 63 nodes; no further one can be put. */
    private static final String FULL =
        "put 0 1;meld 1 1;meld 2 2;meld 3 3;meld 4 4;meld 5 5;meld 6 5;meld 7 4;meld 8 3;meld 9 2;put 10 9;put 11 1;";

    public static void main(String[] args) {
        newObject();
        feedAndEnd();
        text();
        faults();
        tooManyActs();
        acts();
        stops();
        didAndAll();
        versions();
        orders();
        walks();
        lowerings();
        rootsAndDepths();
        comesAndMeet();
        sharing();
        pinning();
        covers();
        forgetting();
        differences();
        likenesses();
        woulds();
        folds();
        dearest();
        belowAndAges();
        overs();
        draws();
        looks();
        ways();
        twices();
        images();
        fortyPuts();
        Due.finish("PromiseTest");
    }

    private static PastHeaps of(String text) {
        PastHeaps heaps = new PastHeaps();
        Due.is("text " + text, Due.tell(heaps, NONE, text), 0);
        return heaps;
    }

    // promise 1, 36
    private static void newObject() {
        PastHeaps heaps = new PastHeaps();
        Due.is("count", heaps.count(), 0);
        Due.is("end", heaps.end(0), 0);
        Due.is("end", heaps.end(1), NONE);
        Due.is("fault", heaps.fault(0), 0);
        Due.is("place", heaps.fault(1), NONE);
        Due.is("stop", heaps.stop(0), NONE);
        for (int k = -1; k < 4; k++) {
            Due.is("again", heaps.again(k), false);
        }
        Due.is("NONE", PastHeaps.NONE, -1);
    }

    // promises 2, 3
    private static void feedAndEnd() {
        PastHeaps heaps = new PastHeaps();
        for (int i = 1; i <= 30; i++) {
            Due.is("feed", heaps.feed(0x6e65773b, 0, 0, 0, 0x6e65773b), 20 * i);
        }
        Due.is("feed full", heaps.feed(1, 2, 3, 4, 5), NONE);
        Due.is("end too many", heaps.end(601), NONE);
        Due.is("end below 0", heaps.end(-1), NONE);
        Due.is("end", heaps.end(600), 600);
        Due.is("end", heaps.end(581), 581);
        Due.is("feed full", heaps.feed(1, 2, 3, 4, 5), NONE);
        Due.is("end gone", heaps.end(582), NONE);
        Due.is("end", heaps.end(4), 4);
        Due.is("text of the highest bytes first", heaps.text(NONE), 0);
        Due.is("kind", heaps.act(0, 0, 0), 0);
        Due.is("tape empty", heaps.end(1), NONE);
        heaps.feed(0x6e65773b, 0x70757420, 0x30203132, 0x3b6c6573, 0x7320323b);
        Due.is("text", heaps.text(NONE), 1);
        Due.is("put", heaps.act(1, 1, 0), 1);
        Due.is("put's key", heaps.act(1, 1, 2), 12);
        Due.is("less", heaps.act(1, 2, 1), 2);
    }

    // promises 4, 36
    private static void text() {
        PastHeaps heaps = of("new;");
        Due.is("place of none", Due.tell(heaps, 1, "new;"), -2);
        Due.is("place below", Due.tell(heaps, -2, "new;"), -2);
        Due.is("tape empty", heaps.end(1), NONE);
        Due.is("count", heaps.count(), 1);
        Due.is("second", Due.tell(heaps, NONE, "put 0 7;"), 1);
        Due.is("third", Due.tell(heaps, NONE, "put 0 8;"), 2);
        Due.is("fourth", Due.tell(heaps, NONE, "put 0 9;"), 3);
        Due.is("fault before", Due.tell(heaps, 0, "#"), NONE);
        Due.is("fault", heaps.fault(0), 1);
        Due.is("fifth", Due.tell(heaps, NONE, "put"), -2);
        Due.is("no fault of a text not read", heaps.fault(0), 0);
        Due.is("no place of a text not read", heaps.fault(1), NONE);
        Due.is("tape empty", heaps.end(1), NONE);
        Due.is("count", heaps.count(), 4);
        Due.is("in the place of one", Due.tell(heaps, 1, "put 0 3; put 1 4;"), 1);
        Due.is("stop", heaps.stop(1), 2);
        Due.is("things from 0 on", heaps.order(1, 2, 1, false), 1);
        Due.is("others as they were", heaps.order(2, 1, 0, true), 8);
        Due.is("a fault in its place", Due.tell(heaps, 1, "put 0 3"), NONE);
        Due.is("row as it was", heaps.stop(1), 2);
        Due.is("tape empty", heaps.end(1), NONE);
        Due.is("shorter", Due.tell(heaps, 1, "new;"), 1);
        Due.is("stop", heaps.stop(1), 1);
        Due.is("nodes", heaps.all(1, false), 0);
        Due.is("count", heaps.count(), 4);
    }

    private static void fault(String text, int what, int place) {
        PastHeaps heaps = new PastHeaps();
        Due.is("text " + text, Due.tell(heaps, NONE, text), what == 0 ? 0 : NONE);
        Due.is("fault of " + text, heaps.fault(0), what);
        Due.is("place of " + text, heaps.fault(1), place);
        Due.is("another what", heaps.fault(2), NONE);
        Due.is("another what", heaps.fault(-1), NONE);
        Due.is("count", heaps.count(), what == 0 ? 1 : 0);
    }

    // promise 5
    private static void faults() {
        fault("", 4, 0);
        fault(" \n ", 4, 3);
        fault("new;", 0, NONE);
        fault(" \nnew\n;\n", 0, NONE);
        fault("put0 5;put 1 3;", 0, NONE);
        fault("put 40 99;lower 40 39 99;meld 40 40;less 40;cut 40 99;", 0, NONE);
        fault("put 00 05;", 0, NONE);
        fault("new", 1, 3);
        fault("new  ", 1, 5);
        fault("put 1", 1, 5);
        fault(";", 1, 0);
        fault("new;;", 1, 4);
        fault("new 1;", 1, 4);
        fault("put 1;", 1, 5);
        fault("put 1 2 3;", 1, 8);
        fault("less;", 1, 4);
        fault("lower 1 2;", 1, 9);
        fault("cut 1;", 1, 5);
        fault("meld 1;", 1, 6);
        fault("put 0 100;", 1, 6);
        fault("put 0 12 ;", 0, NONE);
        fault("news;", 1, 0);
        fault("newa;", 1, 0);
        fault("newz;", 1, 0);
        fault("new`;", 1, 3);
        fault("new{;", 1, 3);
        fault("ne w;", 1, 0);
        fault("New;", 1, 0);
        fault("newX;", 1, 3);
        fault("new;put 1 -2;", 1, 10);
        fault("new;\t", 1, 4);
        fault("new;" + (char) 200, 1, 4);
        fault("less put;", 1, 5);
        fault("7;", 1, 0);
        fault("put 41 1;", 2, 4);
        fault("put 0 1;meld 0 41;", 2, 15);
        fault("lower 0 40 0;", 2, 8);
        fault("less 41;cut 41 1;", 2, 5);
        fault("less 41;#", 1, 8);
        fault("put 99 1;put 0 1", 1, 16);
    }

    private static void tooManyActs() {
        StringBuilder forty = new StringBuilder();
        for (int k = 0; k < 40; k++) {
            forty.append("new;");
        }
        PastHeaps heaps = of(forty.toString());
        Due.is("forty", heaps.act(0, NONE, 0), 40);
        Due.is("stop", heaps.stop(0), 40);
        fault(forty + " new;", 3, 161);
        fault(forty + "new;less 41;", 3, 160);
        fault(forty + "less 41;", 3, 160);
        fault(forty.substring(4) + "less 41;new;", 2, 161);
        fault("less 41;" + forty, 2, 5);
        fault(forty + "new;new;put;", 1, 171);
    }

    // promise 6
    private static void acts() {
        PastHeaps heaps = of("put 0 5;meld 1 0;less 2;lower 3 39 12;cut 1 7;new;");
        int[][] due = {{1, 0, 5, -1}, {2, 1, 0, -1}, {3, 2, -1, -1}, {4, 3, 39, 12}, {5, 1, 7, -1}, {0, -1, -1, -1}};
        for (int k = 0; k < due.length; k++) {
            for (int what = 0; what < 4; what++) {
                Due.is("act " + k + " " + what, heaps.act(0, k, what), due[k][what]);
            }
            Due.is("another what", heaps.act(0, k, 4), -2);
            Due.is("another what", heaps.act(0, k, -1), -2);
        }
        Due.is("how many", heaps.act(0, NONE, 0), 6);
        Due.is("how many, another what", heaps.act(0, NONE, 1), -2);
        Due.is("no act", heaps.act(0, 6, 0), -2);
        Due.is("no act", heaps.act(0, -2, 0), -2);
        Due.is("no row", heaps.act(1, 0, 0), -2);
        Due.is("no row", heaps.act(-1, NONE, 0), -2);
    }

    private static void stop(String text, int due) {
        Due.is("stop of " + text, of(text).stop(0), due);
    }

    // promise 7
    private static void stops() {
        stop(BASE, 9);
        stop("put 1 5;put 0 1;", 0);
        stop("put 0 5;meld 1 2;put 1 1;", 1);
        stop("less 0;", 0);
        stop("put 0 5;less 1;less 2;new;", 2);
        stop("put 0 5;lower 1 1 3;", 1);
        stop("put 0 5;lower 1 0 6;", 1);
        stop("put 0 5;lower 1 0 5;", 2);
        stop("cut 0 9;cut 1 0;", 2);
        stop(FULL, 11);
        stop(FULL.replace("put 11 1", "meld 11 1"), 11);
        stop(FULL.replace("put 11 1", "meld 0 11"), 12);
        Due.is("no row", of("new;").stop(1), NONE);
        Due.is("no row", of("new;").stop(-1), NONE);
    }

    private static void did(PastHeaps heaps, int[] made, int[] links, int[] paid) {
        for (int k = 0; k < made.length; k++) {
            Due.is("made " + k, heaps.did(0, k, 0), made[k]);
            Due.is("links " + k, heaps.did(0, k, 1), links[k]);
            Due.is("paid " + k, heaps.did(0, k, 2), paid[k]);
            Due.is("another what", heaps.did(0, k, 3), -100000);
            Due.is("another what", heaps.did(0, k, -1), -100000);
        }
        Due.is("no act", heaps.did(0, made.length, 0), -100000);
        Due.is("no act", heaps.did(0, -1, 0), -100000);
        Due.is("no row", heaps.did(1, 0, 0), -100000);
        Due.is("no row", heaps.did(-1, 0, 0), -100000);
    }

    // promises 8, 9
    private static void didAndAll() {
        PastHeaps heaps = of(BASE);
        did(heaps, new int[] {1, 2, 1, 1, 2, 1, 1, 0, 1}, new int[] {0, 1, 0, 1, 2, 0, 1, 0, 0},
            new int[] {1, 1, 1, 0, 0, 0, 0, 0, 1});
        Due.is("nodes", heaps.all(0, false), 10);
        Due.is("things", heaps.all(0, true), 4);
        Due.is("no row", heaps.all(1, false), NONE);
        Due.is("no row", heaps.all(-1, true), NONE);
        heaps = of(LOWERS + "put 7 1;");
        did(heaps, new int[] {1, 2, 1, 3, 3, 2}, new int[] {0, 1, 0, 2, 0, 0}, new int[] {1, 1, 1, 1, 0, 0});
        Due.is("nodes up to STOP", heaps.all(0, false), 12);
        Due.is("things up to STOP", heaps.all(0, true), 4);
        // a less that leaves two trees of one; a cut of all
        heaps = of(LOWERS + "less 4;cut 4 9;cut 3 9;");
        Due.is("less pays", heaps.did(0, 6, 2), 1);
        Due.is("cut pays", heaps.did(0, 7, 2), -1);
        Due.is("cut made", heaps.did(0, 7, 0), 0);
        Due.is("cut pays", heaps.did(0, 8, 2), -1);
        Due.is("cut made", heaps.did(0, 8, 0), 1);
    }

    // promise 10
    private static void versions() {
        PastHeaps heaps = of(BASE);
        int[][] due = {
            {0, 0, 0, 0, -1, 0, -1}, {1, 1, 1, 0, 0, 0, 0}, {2, 1, 2, 0, 0, 2, 1}, {3, 2, 3, 0, 0, 3, 1},
            {2, 1, 2, 1, 2, 3, 1}, {6, 2, 5, 2, 0, 3, 2}, {3, 2, 3, 1, 1, 2, 1}, {2, 1, 2, 1, 2, 3, 1},
            {0, 0, 0, 0, -1, 0, -1}, {1, 1, 1, 1, 3, 0, 0},
        };
        for (int v = 0; v < due.length; v++) {
            for (int what = 0; what < 7; what++) {
                Due.is("version " + v + " " + what, heaps.version(0, v, what), due[v][what]);
            }
            Due.is("another what", heaps.version(0, v, 7), -2);
            Due.is("another what", heaps.version(0, v, -1), -2);
        }
        Due.is("no version", heaps.version(0, 10, 0), -2);
        Due.is("no version", heaps.version(0, -1, 0), -2);
        Due.is("no row", heaps.version(1, 0, 0), -2);
        Due.is("no row", heaps.version(-1, 0, 0), -2);
        heaps = of(FULL);
        Due.is("63", heaps.version(0, 11, 0), 63);
        Due.is("six trees", heaps.version(0, 11, 1), 6);
        Due.is("rank 5", heaps.version(0, 11, 6), 5);
        Due.is("behind STOP", heaps.version(0, 12, 0), -2);
    }

    // promise 11
    private static void orders() {
        PastHeaps heaps = of(BASE);
        int[] things = {1, 1, 0, 0, 2, 2};
        int[] keys = {3, 3, 5, 5, 8, 8};
        for (int k = 0; k < 6; k++) {
            Due.is("order", heaps.order(0, 5, k, false), things[k]);
            Due.is("key", heaps.order(0, 5, k, true), keys[k]);
        }
        Due.is("behind", heaps.order(0, 5, 6, false), NONE);
        Due.is("before", heaps.order(0, 5, -1, true), NONE);
        Due.is("empty", heaps.order(0, 0, 0, false), NONE);
        Due.is("no version", heaps.order(0, 10, 0, false), NONE);
        Due.is("no row", heaps.order(1, 5, 0, false), NONE);
        heaps = of("put 0 4;put 1 4;put 2 3;put 3 4;");
        int[] likes = {2, 0, 1, 3};
        for (int k = 0; k < 4; k++) {
            Due.is("of like keys the lesser thing", heaps.order(0, 4, k, false), likes[k]);
        }
    }

    private static void walk(PastHeaps heaps, int version, int[][] due) {
        for (int k = 0; k < due.length; k++) {
            for (int what = 0; what < 5; what++) {
                Due.is("walk " + version + " " + k + " " + what, heaps.walk(0, version, k, what), due[k][what]);
            }
            Due.is("another what", heaps.walk(0, version, k, 5), NONE);
            Due.is("another what", heaps.walk(0, version, k, -1), NONE);
        }
        Due.is("behind", heaps.walk(0, version, due.length, 0), NONE);
        Due.is("before", heaps.walk(0, version, -1, 0), NONE);
    }

    // promise 12
    private static void walks() {
        PastHeaps heaps = of(BASE);
        walk(heaps, 0, new int[][] {});
        walk(heaps, 2, new int[][] {{1, 3, 1, 2, 0}, {0, 5, 0, 0, 1}});
        walk(heaps, 4, new int[][] {{0, 5, 1, 4, 0}, {2, 8, 0, 3, 1}});
        walk(heaps, 5, new int[][] {
            {2, 8, 1, 5, 0}, {2, 8, 0, 3, 1}, {1, 3, 2, 6, 0}, {1, 3, 1, 2, 1}, {0, 5, 0, 0, 2}, {0, 5, 0, 0, 1}});
        walk(heaps, 6, new int[][] {{2, 1, 0, 7, 0}, {1, 3, 1, 2, 0}, {0, 5, 0, 0, 1}});
        Due.is("no version", heaps.walk(0, 10, 0, 0), NONE);
        Due.is("no row", heaps.walk(1, 2, 0, 0), NONE);
        // of like keys the lesser thing is lesser, be it the first one or the second one that is linked
        heaps = of("put 0 4;put 0 4;meld 2 1;meld 1 2;");
        walk(heaps, 3, new int[][] {{0, 4, 1, 2, 0}, {1, 4, 0, 1, 1}});
        walk(heaps, 4, new int[][] {{0, 4, 1, 3, 0}, {1, 4, 0, 1, 1}});
    }

    private static void lowerings() {
        PastHeaps heaps = of(LOWERS);
        walk(heaps, 4, new int[][] {{0, 1, 2, 6, 0}, {2, 3, 1, 5, 1}, {3, 4, 0, 4, 2}, {1, 2, 0, 1, 1}});
        walk(heaps, 5, new int[][] {{3, 0, 2, 7, 0}, {0, 1, 1, 8, 1}, {2, 3, 0, 9, 2}, {1, 2, 0, 1, 1}});
        walk(heaps, 6, new int[][] {{0, 1, 2, 10, 0}, {2, 3, 1, 5, 1}, {3, 4, 0, 4, 2}, {1, 2, 0, 11, 1}});
        // to a like key it rises above the greater thing alone
        heaps = of("put 0 1;put 1 2;put 2 3;put 3 4;lower 4 3 3;lower 4 1 1;put 0 9;lower 7 4 0;meld 8 7;lower 9 4 3;");
        walk(heaps, 5, new int[][] {{0, 1, 2, 7, 0}, {2, 3, 1, 8, 1}, {3, 3, 0, 9, 2}, {1, 2, 0, 1, 1}});
        walk(heaps, 6, new int[][] {{0, 1, 2, 10, 0}, {2, 3, 1, 5, 1}, {3, 4, 0, 4, 2}, {1, 1, 0, 11, 1}});
        // the first in the walk whose key is not below: the one below the root, not the root
        walk(heaps, 10, new int[][] {{4, 0, 1, 15, 0}, {4, 3, 0, 16, 1}});
    }

    // promises 13, 14
    private static void rootsAndDepths() {
        PastHeaps heaps = of(BASE);
        Due.is("root", heaps.root(0, 5, 0), NONE);
        Due.is("root", heaps.root(0, 5, 1), 5);
        Due.is("root", heaps.root(0, 5, 2), 6);
        Due.is("root", heaps.root(0, 3, 0), 3);
        Due.is("root", heaps.root(0, 3, 1), 2);
        Due.is("no rank", heaps.root(0, 5, 6), NONE);
        Due.is("no rank", heaps.root(0, 5, -1), NONE);
        Due.is("no version", heaps.root(0, 10, 0), NONE);
        Due.is("no row", heaps.root(1, 5, 1), NONE);
        Due.is("least way", heaps.depth(0, 5, 0), 1);
        Due.is("depth", heaps.depth(0, 5, 1), 0);
        Due.is("depth", heaps.depth(0, 5, 2), 0);
        Due.is("depth", heaps.depth(0, 4, 2), 1);
        Due.is("not there", heaps.depth(0, 5, 3), NONE);
        Due.is("no thing", heaps.depth(0, 5, -1), NONE);
        Due.is("no thing", heaps.depth(0, 5, 128), NONE);
        Due.is("no version", heaps.depth(0, 10, 0), NONE);
        Due.is("no row", heaps.depth(-1, 5, 0), NONE);
        Due.is("two levels", of(LOWERS).depth(0, 4, 3), 2);
    }

    // promises 15, 16
    private static void comesAndMeet() {
        PastHeaps heaps = of(BASE);
        Due.is("itself", heaps.comes(0, 4, 4), true);
        Due.is("comes", heaps.comes(0, 5, 0), true);
        Due.is("comes", heaps.comes(0, 7, 3), true);
        Due.is("not from a brother", heaps.comes(0, 7, 4), false);
        Due.is("not to what comes from it", heaps.comes(0, 3, 7), false);
        Due.is("new comes from none", heaps.comes(0, 9, 0), false);
        Due.is("comes", heaps.comes(0, 9, 8), true);
        Due.is("no version", heaps.comes(0, 10, 0), false);
        Due.is("no version", heaps.comes(0, 1, -1), false);
        Due.is("no row", heaps.comes(1, 0, 0), false);
        Due.is("meet", heaps.meet(0, 4, 5, false), 3);
        Due.is("meet", heaps.meet(0, 4, 2, false), 2);
        Due.is("meet", heaps.meet(0, 6, 6, false), 6);
        Due.is("meet", heaps.meet(0, 0, 5, false), 0);
        Due.is("meet none", heaps.meet(0, 9, 4, false), NONE);
        Due.is("meet", heaps.meet(0, 9, 8, false), 8);
        Due.is("away", heaps.meet(0, 0, 5, true), 4);
        Due.is("away", heaps.meet(0, 3, 3, true), 0);
        Due.is("not back", heaps.meet(0, 5, 0, true), NONE);
        Due.is("not from", heaps.meet(0, 0, 9, true), NONE);
        Due.is("no version", heaps.meet(0, 0, 10, true), NONE);
        Due.is("no version", heaps.meet(0, -1, 0, false), NONE);
        Due.is("no row", heaps.meet(1, 0, 0, false), NONE);
        heaps = of("put 0 1;put 1 2;put 2 3;meld 3 1;");
        Due.is("the shorter way", heaps.meet(0, 0, 4, true), 2);
        Due.is("by the second one", heaps.comes(0, 4, 1), true);
    }

    // promises 17, 34
    private static void sharing() {
        PastHeaps heaps = of(BASE);
        Due.is("shared", heaps.shared(0, 3, 5), 3);
        Due.is("shared", heaps.shared(0, 5, 3), 3);
        Due.is("shared", heaps.shared(0, 4, 7), 1);
        Due.is("shared with itself", heaps.shared(0, 5, 5), 5);
        Due.is("shared", heaps.shared(0, 9, 1), 0);
        Due.is("no version", heaps.shared(0, 10, 1), NONE);
        Due.is("no version", heaps.shared(0, 1, -1), NONE);
        Due.is("no row", heaps.shared(2, 1, 1), NONE);
        Due.is("tallest", heaps.tallest(0, 3, 5), 1);
        Due.is("tallest", heaps.tallest(0, 4, 7), 0);
        Due.is("tallest of itself", heaps.tallest(0, 5, 5), 2);
        Due.is("none both", heaps.tallest(0, 1, 9), NONE);
        Due.is("empty", heaps.tallest(0, 0, 0), NONE);
        Due.is("no version", heaps.tallest(0, 10, 1), NONE);
        Due.is("no version", heaps.tallest(0, 1, -1), NONE);
        Due.is("no row", heaps.tallest(2, 1, 1), NONE);
    }

    private static long bits(int... versions) {
        long bits = 0;
        for (int version : versions) {
            bits |= 1L << version;
        }
        return bits;
    }

    // promises 18, 19
    private static void pinning() {
        PastHeaps heaps = of(BASE);
        Due.is("kept", heaps.kept(0, bits(1), false), 1);
        Due.is("kept", heaps.kept(0, bits(2, 4), false), 4);
        Due.is("kept", heaps.kept(0, bits(0, 1, 2, 3, 4, 5, 6, 7, 8, 9), false), 9);
        Due.is("back", heaps.kept(0, bits(0, 1, 2, 3, 4, 5, 6, 7, 8, 9), true), 1);
        Due.is("back", heaps.kept(0, bits(2, 4), true), 6);
        Due.is("none pinned", heaps.kept(0, 0, false), 0);
        Due.is("none pinned", heaps.kept(0, 0, true), 10);
        Due.is("no version", heaps.kept(0, bits(1, 10), false), NONE);
        Due.is("no version", heaps.kept(0, Long.MIN_VALUE, true), NONE);
        Due.is("no row", heaps.kept(1, 1, false), NONE);
        Due.is("heavy", heaps.heavy(0, bits(4, 5, 7)), 5);
        Due.is("heavy of likes", heaps.heavy(0, bits(4, 7)), 4);
        Due.is("heavy", heaps.heavy(0, bits(0, 1)), 1);
        Due.is("heavy, all kept by others", heaps.heavy(0, bits(1, 2, 3, 5)), 5);
        Due.is("heavy of empty ones", heaps.heavy(0, bits(0, 8)), 0);
        Due.is("heavy of one", heaps.heavy(0, bits(9)), 9);
        Due.is("heavy of none", heaps.heavy(0, 0), NONE);
        Due.is("no version", heaps.heavy(0, bits(10)), NONE);
        Due.is("no version", heaps.heavy(0, -1), NONE);
        Due.is("no row", heaps.heavy(-1, 1), NONE);
    }

    // promise 20
    private static void covers() {
        PastHeaps heaps = of(BASE);
        Due.is("cover", heaps.cover(0, bits(1, 2, 3)), bits(3));
        Due.is("cover", heaps.cover(0, bits(3, 4, 5, 7)), bits(4, 5, 7));
        Due.is("cover", heaps.cover(0, bits(0)), 0);
        Due.is("cover of none", heaps.cover(0, 0), 0);
        Due.is("cover", heaps.cover(0, bits(0, 8, 9)), bits(9));
        Due.is("no version", heaps.cover(0, bits(1, 10)), NONE);
        Due.is("no row", heaps.cover(1, bits(1)), NONE);
        heaps = of("put 0 1;meld 0 1;meld 1 0;put 3 2;meld 4 0;");
        Due.is("of several the least number", heaps.cover(0, bits(2, 3)), bits(2));
        Due.is("of several the least number", heaps.cover(0, bits(1, 2, 3, 4, 5)), bits(1, 4));
        heaps = of(FULL);
        Due.is("12", heaps.cover(0, 4095), heaps.cover(0, 4095 & ~1L));
        heaps = of("new;new;new;new;new;new;new;new;new;new;new;new;new;");
        Due.is("12", heaps.cover(0, 4095), 0);
        Due.is("13", heaps.cover(0, 8191), NONE);
        Due.is("12 others", heaps.cover(0, 4095L << 2), 0);
    }

    // promise 35
    private static void forgetting() {
        PastHeaps heaps = of(BASE);
        // node 1 is in no version at all: it is given back without any being forgotten
        Due.is("forget none", heaps.forget(0, bits(4, 5), 0), 0);
        Due.is("forget none", heaps.forget(0, bits(4, 5), 1), 0);
        Due.is("forget", heaps.forget(0, bits(4, 7), 2), bits(4));
        Due.is("forget", heaps.forget(0, bits(4, 5, 6), 3), bits(5));
        Due.is("forget", heaps.forget(0, bits(4, 7), 3), bits(4, 7));
        Due.is("by none", heaps.forget(0, bits(4, 7), 4), NONE);
        Due.is("by none", heaps.forget(0, bits(1), 2), NONE);
        Due.is("shared by all of them", heaps.forget(0, bits(3, 4, 5, 7), 6), bits(3, 4, 5, 7));
        Due.is("of none", heaps.forget(0, 0, 0), 0);
        Due.is("of none", heaps.forget(0, 0, 2), NONE);
        Due.is("below 0", heaps.forget(0, bits(4), -1), NONE);
        Due.is("no version", heaps.forget(0, bits(4, 10), 0), NONE);
        Due.is("no row", heaps.forget(1, bits(4), 0), NONE);
        heaps = of("new;new;new;new;new;new;new;new;new;new;new;new;put 12 1;");
        Due.is("12", heaps.forget(0, 4095L << 2, 1), bits(13));
        Due.is("13", heaps.forget(0, 8191, 0), NONE);
    }

    // promise 21
    private static void differences() {
        PastHeaps heaps = of(BASE);
        Due.is("put", heaps.differ(0, 1, 2), 1);
        Due.is("less", heaps.differ(0, 2, 1), 1);
        Due.is("less", heaps.differ(0, 3, 4), 1);
        Due.is("lower", heaps.differ(0, 3, 6), 1);
        Due.is("a rise: less and put", heaps.differ(0, 6, 3), 2);
        Due.is("less, lower, less", heaps.differ(0, 3, 1), 3);
        Due.is("less, put, put", heaps.differ(0, 9, 4), 3);
        Due.is("none", heaps.differ(0, 0, 0), 0);
        Due.is("none", heaps.differ(0, 4, 7), 0);
        Due.is("a thing twice", heaps.differ(0, 5, 1), NONE);
        Due.is("a thing twice", heaps.differ(0, 1, 5), NONE);
        Due.is("no version", heaps.differ(0, 10, 1), NONE);
        Due.is("no version", heaps.differ(0, 1, -1), NONE);
        Due.is("no row", heaps.differ(1, 1, 1), NONE);
        heaps = of("put 0 1;put 1 5;put 2 6;put 3 7;put 4 0;put 5 0;put 6 0;lower 4 3 0;");
        Due.is("four less and a put, not three lowered", heaps.differ(0, 4, 1), 5);
        Due.is("below 0", heaps.differ(0, 8, 4), 2);
        Due.is("six", heaps.differ(0, 6, 0), 6);
        Due.is("six", heaps.differ(0, 0, 6), 6);
        Due.is("seven", heaps.differ(0, 7, 0), NONE);
        Due.is("seven", heaps.differ(0, 0, 7), NONE);
    }

    // promise 22
    private static void likenesses() {
        PastHeaps heaps = of(BASE);
        Due.is("alike", heaps.alike(0, 4, 7, false), true);
        Due.is("same", heaps.alike(0, 4, 7, true), true);
        Due.is("empty ones", heaps.alike(0, 0, 8, true), true);
        Due.is("a key less", heaps.alike(0, 3, 6, false), false);
        Due.is("more", heaps.alike(0, 1, 2, false), false);
        Due.is("no version", heaps.alike(0, 10, 10, false), false);
        Due.is("no version", heaps.alike(0, 0, -1, true), false);
        Due.is("no row", heaps.alike(1, 0, 0, false), false);
        heaps = of("put 0 1;put 0 2;put 0 3;meld 1 2;meld 4 3;meld 2 3;meld 6 1;meld 1 1;meld 8 2;meld 2 2;meld 10 1;");
        Due.is("alike", heaps.alike(0, 5, 7, false), true);
        Due.is("not the same", heaps.alike(0, 5, 7, true), false);
        Due.is("each as often", heaps.alike(0, 9, 11, false), false);
    }

    private static void would(PastHeaps heaps, int version, int act, int a, int b, int made, int links) {
        String of = "would " + version + " " + act + " " + a + " " + b;
        Due.is(of, heaps.would(0, version, act, a, b, false), made);
        Due.is(of + " links", heaps.would(0, version, act, a, b, true), links);
    }

    // promise 23
    private static void woulds() {
        PastHeaps heaps = of(BASE);
        would(heaps, 3, 1, 7, 0, 3, 2);
        would(heaps, 0, 1, 0, 0, 1, 0);
        would(heaps, 3, 1, 100, 0, NONE, NONE);
        would(heaps, 3, 1, -1, 0, NONE, NONE);
        would(heaps, 3, 2, 3, 0, 2, 2);
        would(heaps, 3, 2, 1, 0, 2, 2);
        would(heaps, 3, 2, 10, 0, NONE, NONE);
        would(heaps, 3, 2, -1, 0, NONE, NONE);
        would(heaps, 3, 3, -5, 1000, 1, 1);
        would(heaps, 0, 3, 0, 0, NONE, NONE);
        would(heaps, 3, 4, 0, 0, 2, 0);
        would(heaps, 3, 4, 0, 5, 2, 0);
        would(heaps, 3, 4, 0, 6, NONE, NONE);
        would(heaps, 3, 4, 3, 0, NONE, NONE);
        would(heaps, 3, 4, 0, -1, NONE, NONE);
        would(heaps, 3, 4, 0, 100, NONE, NONE);
        would(heaps, 3, 5, 9, 0, 1, 1);
        would(heaps, 3, 5, 3, 0, 0, 0);
        would(heaps, 0, 5, 5, 0, 0, 0);
        would(heaps, 3, 5, 100, 0, NONE, NONE);
        would(heaps, 3, 0, 0, 0, NONE, NONE);
        would(heaps, 3, 6, 0, 0, NONE, NONE);
        would(heaps, 10, 1, 0, 0, NONE, NONE);
        would(heaps, -1, 1, 0, 0, NONE, NONE);
        Due.is("no row", heaps.would(1, 0, 1, 0, 0, false), NONE);
        Due.is("nothing is made", heaps.all(0, false), 10);
        Due.is("nothing is put", heaps.all(0, true), 4);
        heaps = of(FULL);
        would(heaps, 11, 1, 5, 0, NONE, NONE);
        would(heaps, 11, 2, 1, 0, NONE, NONE);
        would(heaps, 11, 2, 0, 0, 0, 0);
        would(heaps, 10, 2, 1, 0, 0, 0);
    }

    // promise 24
    private static void folds() {
        PastHeaps heaps = of(BASE);
        Due.is("fold", heaps.fold(0, bits(1, 2), 0), 1);
        Due.is("first", heaps.fold(0, bits(1, 2), 10), 1);
        Due.is("second", heaps.fold(0, bits(1, 2), 11), 2);
        Due.is("no third", heaps.fold(0, bits(1, 2), 12), NONE);
        Due.is("another what", heaps.fold(0, bits(1, 2), 1), NONE);
        Due.is("another what", heaps.fold(0, bits(1, 2), 9), NONE);
        Due.is("another what", heaps.fold(0, bits(1, 2), -1), NONE);
        Due.is("fold", heaps.fold(0, bits(1, 9), 0), 0);
        Due.is("empty ones", heaps.fold(0, bits(0, 8), 0), 0);
        Due.is("empty ones", heaps.fold(0, bits(0, 8), 11), 8);
        Due.is("one", heaps.fold(0, bits(1), 0), NONE);
        Due.is("none", heaps.fold(0, 0, 0), NONE);
        Due.is("six", heaps.fold(0, bits(0, 1, 2, 3, 4, 5), 0), NONE);
        Due.is("no version", heaps.fold(0, bits(1, 10), 0), NONE);
        Due.is("no row", heaps.fold(1, bits(1, 2), 0), NONE);
        // 0:9, 1:2, 2:1: where 2:1 comes last it is a tree by itself, and less makes nothing
        heaps = of("put 0 9;put 0 2;put 0 1;put 3 1;");
        Due.is("order", heaps.fold(0, bits(1, 2, 3), 0), 0);
        int[] order = {1, 2, 3};
        for (int i = 0; i < 3; i++) {
            Due.is("order " + i, heaps.fold(0, bits(1, 2, 3), 10 + i), order[i]);
        }
        heaps = of("put 0 1;put 0 2;put 0 9;put 3 1;");
        Due.is("another order", heaps.fold(0, bits(1, 2, 3), 0), 0);
        int[] another = {2, 3, 1};
        for (int i = 0; i < 3; i++) {
            Due.is("another order " + i, heaps.fold(0, bits(1, 2, 3), 10 + i), another[i]);
        }
        Due.is("nothing is made", heaps.all(0, false), 5);
        heaps = of(FULL);
        Due.is("63 together", heaps.fold(0, bits(0, 11), 0) >= 0, true);
        Due.is("64 together", heaps.fold(0, bits(1, 11), 0), NONE);
    }

    // promise 25
    private static void dearest() {
        PastHeaps heaps = of(BASE);
        Due.is("first", heaps.dearest(0, false), 1);
        Due.is("second", heaps.dearest(0, true), 3);
        Due.is("no row", heaps.dearest(1, false), NONE);
        Due.is("no row", heaps.dearest(-1, true), NONE);
        heaps = of("new;");
        Due.is("empty ones", heaps.dearest(0, false), 0);
        Due.is("empty ones", heaps.dearest(0, true), 0);
        heaps = of("put 0 1;");
        Due.is("with itself", heaps.dearest(0, false), 1);
        Due.is("with itself", heaps.dearest(0, true), 1);
        // 48 and 32 would have a link, but are more than 63
        heaps = of(FULL);
        Due.is("63 at most", heaps.dearest(0, false), 1);
        Due.is("63 at most", heaps.dearest(0, true), 1);
    }

    // promises 26, 27, 28
    private static void belowAndAges() {
        PastHeaps heaps = of(BASE);
        int[][] below = {{-5, 0}, {3, 0}, {4, 1}, {5, 1}, {6, 2}, {8, 2}, {9, 3}, {1000, 3}};
        for (int[] due : below) {
            Due.is("below " + due[0], heaps.below(0, 3, due[0]), due[1]);
        }
        Due.is("each as often", heaps.below(0, 5, 6), 4);
        Due.is("no version", heaps.below(0, 10, 5), NONE);
        Due.is("no row", heaps.below(1, 3, 5), NONE);
        int[][] ages = {{1, 7, 5}, {2, 6, 3}, {3, 7, 1}, {9, 9, 1}, {NONE, NONE, NONE}};
        for (int thing = 0; thing < ages.length; thing++) {
            Due.is("first age", heaps.age(0, thing, false), ages[thing][0]);
            Due.is("last age", heaps.age(0, thing, true), ages[thing][1]);
            Due.is("lowest", heaps.lowest(0, thing), ages[thing][2]);
        }
        Due.is("no thing", heaps.age(0, -1, false), NONE);
        Due.is("no thing", heaps.lowest(0, -1), NONE);
        Due.is("no row", heaps.age(1, 0, false), NONE);
        Due.is("no row", heaps.lowest(1, 0), NONE);
    }

    // promise 29
    private static void overs() {
        PastHeaps heaps = of(BASE);
        Due.is("over", heaps.over(0, 0), 0);
        Due.is("over", heaps.over(0, -1), 0);
        Due.is("over none", heaps.over(0, 1), NONE);
        Due.is("no row", heaps.over(1, 0), NONE);
        Due.is("the first one", of("new;put 1 1;put 1 1;").over(0, 0), 1);
        // of eight in one tree less leaves three trees: it pays 0 + 3 - 1
        heaps = of("put 0 1;meld 1 1;meld 2 2;meld 3 3;less 4;");
        Due.is("it pays most", heaps.over(0, 1), 4);
        Due.is("none pays more", heaps.over(0, 2), NONE);
        Due.is("far below", heaps.over(0, Integer.MIN_VALUE), 0);
        Due.is("no act", of("less 0;").over(0, -5), NONE);
    }

    // promise 30
    private static void draws() {
        PastHeaps heaps = of(BASE);
        // seed 7 draws: put 6, put 74, put 33, less, put 85, put 13
        int[] six = {4, 4, 13, 9};
        int[] one = {1, 0, 6, 1};
        int[] four = {2, 2, 33, 5};
        for (int what = 0; what < 4; what++) {
            Due.is("drawn " + what, heaps.drawn(0, 0, 7, 6, what), six[what]);
            Due.is("drawn " + what, heaps.drawn(0, 8, 7, 1, what), one[what]);
            Due.is("drawn " + what, heaps.drawn(0, 0, 7, 4, what), four[what]);
        }
        // seed 0: put 36 (0 is drawn, but the heap is empty), less
        Due.is("drawn", heaps.drawn(0, 0, 0, 1, 2), 36);
        Due.is("empty then", heaps.drawn(0, 0, 0, 2, 2), NONE);
        Due.is("empty then", heaps.drawn(0, 0, 0, 2, 0), 0);
        // seed -1: put 9, put 86, put 94, put 31, less, put 73
        Due.is("drawn", heaps.drawn(0, 0, -1, 6, 2), 31);
        Due.is("drawn", heaps.drawn(0, 0, -1, 6, 0), 4);
        Due.is("30", heaps.drawn(0, 0, 1, 30, 0) >= 0, true);
        Due.is("31", heaps.drawn(0, 0, 1, 31, 0), -2);
        Due.is("no k", heaps.drawn(0, 0, 1, 0, 0), -2);
        Due.is("another what", heaps.drawn(0, 0, 1, 1, 4), -2);
        Due.is("another what", heaps.drawn(0, 0, 1, 1, -1), -2);
        Due.is("no version", heaps.drawn(0, 10, 1, 1, 0), -2);
        Due.is("no row", heaps.drawn(1, 0, 1, 1, 0), -2);
        Due.is("nothing is made", heaps.all(0, false), 10);
        Due.is("nothing is put", heaps.all(0, true), 4);
        // Of 63 nothing is put, and no key drawn for it: where it were, seed 0 would tell others.
        heaps = of(FULL);
        fullDraws(heaps);
    }

    private static void fullDraws(PastHeaps heaps) {
        for (int seed = 0; seed < 40; seed++) {
            int x = seed;
            int size = 63;
            for (int k = 1; k <= 30; k++) {
                x = x * 1103515245 + 12345;
                if ((x >>> 16) % 3 == 0) {
                    size--;
                } else if (size < 63) {
                    x = x * 1103515245 + 12345;
                    size++;
                }
                if (k == 3 || k == 30) {
                    Due.is("of 63", heaps.drawn(0, 11, seed, k, 0), size);
                }
            }
        }
    }

    // promise 31
    private static void looks() {
        PastHeaps heaps = of(BASE);
        int[] looked = {2, 4, 5, 5, 5, 6, 6};
        int[] sums = {0, 3, 6, 11, 16, 24, 32};
        for (int k = 0; k < 7; k++) {
            Due.is("looked " + k, heaps.looked(0, 5, k, false), looked[k]);
            Due.is("sum " + k, heaps.looked(0, 5, k, true), sums[k]);
        }
        Due.is("more than there are", heaps.looked(0, 5, 7, false), NONE);
        Due.is("below 0", heaps.looked(0, 5, -1, true), NONE);
        Due.is("empty", heaps.looked(0, 0, 0, false), 0);
        Due.is("no version", heaps.looked(0, 10, 0, false), NONE);
        Due.is("no row", heaps.looked(1, 5, 0, false), NONE);
    }

    // promise 32
    private static void ways() {
        PastHeaps heaps = of(BASE);
        Due.is("links", heaps.way(0, 0, 5, false), 3);
        Due.is("ways", heaps.way(0, 0, 5, true), 2);
        Due.is("links", heaps.way(0, 3, 7, false), 1);
        Due.is("without the first one's own", heaps.way(0, 2, 3, false), 0);
        Due.is("itself", heaps.way(0, 2, 2, false), 0);
        Due.is("itself", heaps.way(0, 2, 2, true), 1);
        Due.is("not from", heaps.way(0, 0, 9, false), NONE);
        Due.is("not from", heaps.way(0, 0, 9, true), NONE);
        Due.is("not back", heaps.way(0, 5, 3, false), NONE);
        Due.is("not back", heaps.way(0, 5, 3, true), NONE);
        Due.is("no version", heaps.way(0, 0, 10, true), NONE);
        Due.is("no version", heaps.way(0, -1, 1, false), NONE);
        Due.is("no row", heaps.way(1, 0, 0, true), NONE);
        StringBuilder doubled = new StringBuilder();
        for (int k = 0; k < 40; k++) {
            doubled.append("meld ").append(k).append(' ').append(k).append(';');
        }
        heaps = of(doubled.toString());
        Due.is("two each", heaps.way(0, 0, 40, true), 1L << 40);
        Due.is("two each", heaps.way(0, 39, 40, true), 2);
        heaps = of("put 0 1;put 1 2;put 2 3;meld 3 1;meld 4 2;");
        Due.is("the most links", heaps.way(0, 1, 4, false), 3);
        Due.is("both ways", heaps.way(0, 1, 4, true), 2);
        Due.is("three ways", heaps.way(0, 1, 5, true), 3);
    }

    // promise 33
    private static void twices() {
        PastHeaps heaps = of(BASE);
        int[] twice = {0, 0, 0, 0, 0, 3, 0, 0, 0, 0};
        int[] fresh = {0, 1, 1, 1, 1, 2, 1, 1, 0, 1};
        for (int v = 0; v < 10; v++) {
            Due.is("twice " + v, heaps.twice(0, v, false), twice[v]);
            Due.is("fresh " + v, heaps.twice(0, v, true), fresh[v]);
        }
        Due.is("no version", heaps.twice(0, 10, false), NONE);
        Due.is("no row", heaps.twice(1, 0, true), NONE);
        heaps = of(FULL);
        Due.is("often", heaps.twice(0, 11, false), 1);
        Due.is("meld with an empty one", of("put 0 1;meld 1 0;").twice(0, 2, true), 0);
    }

    // promises 37, 38
    private static void images() {
        PastHeaps heaps = of("put 0 7;");
        Due.is("image", heaps.image(0), true);
        Due.is("no image", heaps.image(-1), false);
        Due.is("no image", heaps.image(3), false);
        Due.is("not yet", heaps.again(1), false);
        Due.tell(heaps, NONE, "less 41;");
        Due.write(heaps, "put 0 8;", 0);
        Due.is("image with tape and fault", heaps.image(1), true);
        Due.is("the tape is taken", heaps.text(NONE), 1);
        Due.tell(heaps, 0, BASE);
        Due.is("image", heaps.image(2), true);
        Due.is("again", heaps.again(0), true);
        Due.is("count", heaps.count(), 1);
        Due.is("row", heaps.order(0, 1, 0, true), 7);
        Due.is("row gone", heaps.stop(1), NONE);
        Due.is("nodes", heaps.all(0, false), 1);
        Due.is("fault", heaps.fault(0), 0);
        Due.is("tape", heaps.end(1), NONE);
        Due.is("again", heaps.again(1), true);
        Due.is("fault", heaps.fault(0), 2);
        Due.is("place", heaps.fault(1), 5);
        Due.is("tape", heaps.end(9), NONE);
        Due.is("tape", heaps.end(8), 8);
        Due.is("text of it", heaps.text(NONE), 1);
        Due.is("key", heaps.order(1, 1, 0, true), 8);
        Due.is("images stay", heaps.again(2), true);
        Due.is("row", heaps.stop(0), 9);
        Due.is("row", heaps.version(0, 5, 2), 5);
        Due.is("count", heaps.count(), 2);
        Due.is("image over", heaps.image(0), true);
        Due.tell(heaps, 0, "new;");
        Due.is("again", heaps.again(0), true);
        Due.is("row", heaps.stop(0), 9);
        Due.is("other row", heaps.order(1, 1, 0, true), 8);
        Due.is("no image", heaps.again(3), false);
        Due.is("no image", heaps.again(-1), false);
    }

    /** The last of all versions, and the last of all things. */
    private static void fortyPuts() {
        StringBuilder puts = new StringBuilder();
        for (int k = 0; k < 40; k++) {
            puts.append("put ").append(k).append(" 50;");
        }
        PastHeaps heaps = of(puts.toString());
        Due.is("stop", heaps.stop(0), 40);
        // each link leaves one tree fewer: 40 put, two trees in the end
        Due.is("nodes", heaps.all(0, false), 78);
        Due.is("things", heaps.all(0, true), 40);
        Due.is("links", heaps.way(0, 0, 40, false), 38);
        Due.is("ways", heaps.way(0, 0, 40, true), 1);
        Due.is("away", heaps.meet(0, 0, 40, true), 40);
        Due.is("meet", heaps.meet(0, 40, 40, false), 40);
        Due.is("comes", heaps.comes(0, 40, 1), true);
        Due.is("size", heaps.version(0, 40, 0), 40);
        Due.is("no version", heaps.version(0, 41, 0), -2);
        Due.is("last thing", heaps.order(0, 40, 39, false), 39);
        Due.is("first age", heaps.age(0, 39, false), 40);
        Due.is("last age", heaps.age(0, 39, true), 40);
        Due.is("heavy", heaps.heavy(0, 1L << 40), 40);
        Due.is("kept", heaps.kept(0, (1L << 41) - 1, false) + heaps.kept(0, (1L << 41) - 1, true), 78);
        Due.is("no version", heaps.kept(0, 1L << 41, false), NONE);
        Due.is("cover", heaps.cover(0, 1L << 40 | 1L << 39), 1L << 39 | 1L << 40);
        Due.is("forget", heaps.forget(0, 1L << 40, heaps.kept(0, (1L << 40) - 1, true)), 1L << 40);
        Due.is("by none", heaps.forget(0, 1L << 40, heaps.kept(0, (1L << 40) - 1, true) + 1), NONE);
        would(heaps, 40, 1, 0, 0, 1, 0);
        would(heaps, 40, 2, 40, 0, NONE, NONE);
        would(heaps, 40, 4, 39, 0, 4, 0);
    }
}
