/** "There is none such": rows and versions that are not there, for each promise that has them; refused calls. */
public final class NoSuchTest {
    private static final int NONE = PastHeaps.NONE;
    private static final int[] NO_ROWS = {2, 3, 4, 5, 31, 32, 64, -1, -2, Integer.MIN_VALUE, Integer.MAX_VALUE};
    /** Two are there behind version 0; 32 and 64 above one that is there would be the same bit. */
    private static final int[] NO_VERSIONS = {3, 4, 5, 32, 33, 39, 40, 41, 42, 63, 64, 65, 66, 256, -1, -2, -3, -63, -64,
        Integer.MIN_VALUE, Integer.MIN_VALUE + 1, Integer.MAX_VALUE};
    /** STOP is 2: acts 2 and 3 are told, but versions 3 and 4 are not there. */
    private static final String TWO = "put 0 5;put 1 3;less 0;put 2 1;";

    private interface Ask {
        long of(PastHeaps heaps, int row, int version);
    }

    public static void main(String[] args) {
        promisesOfOneVersion();
        promisesOfTwoVersions();
        promisesOfRows();
        refusedCallsChangeNothing();
        askingChangesNothing();
        Due.finish("NoSuchTest");
    }

    /** Row 0 had forty acts before: what these made is not there any more. */
    private static PastHeaps twoRows() {
        PastHeaps heaps = Due.of("put 0 1;put 1 2;" + Due.times(38, "meld 1 2;"));
        Due.is("in its place", Due.tell(heaps, 0, TWO), 0);
        Due.is("second", Due.tell(heaps, NONE, TWO), 1);
        return heaps;
    }

    private static void ofRows(String call, long due, Ask ask) {
        PastHeaps heaps = twoRows();
        for (int row : NO_ROWS) {
            Due.is(call + " of row " + row, ask.of(heaps, row, 1), due);
        }
        // the call is one that is answered where there is the row
        Due.is(call + " of row 0", ask.of(heaps, 0, 1) != due, true);
        Due.is(call + " of row 1", ask.of(heaps, 1, 1) == ask.of(heaps, 0, 1), true);
        Due.is(call + " of a new object", ask.of(new PastHeaps(), 0, 1), due);
        Due.is(call + " of a new object", ask.of(new PastHeaps(), 0, 0), due);
        PastHeaps four = twoRows();
        Due.is("third", Due.tell(four, NONE, TWO), 2);
        Due.is("fourth", Due.tell(four, NONE, TWO), 3);
        Due.is(call + " of row 3", ask.of(four, 3, 1) == ask.of(four, 0, 1), true);
        for (int row : new int[] {4, 5, -1, Integer.MIN_VALUE, Integer.MAX_VALUE}) {
            Due.is(call + " of row " + row, ask.of(four, row, 1), due);
        }
    }

    private static void none(String call, long due, Ask ask) {
        ofRows(call, due, ask);
        PastHeaps heaps = twoRows();
        for (int version : NO_VERSIONS) {
            Due.is(call + " of version " + version, ask.of(heaps, 0, version), due);
        }
        // of forty acts version 40 is there, and is the last one
        PastHeaps forty = Due.of(TWO.substring(0, 16) + Due.times(38, "meld 1 0;"));
        Due.is(call + " of version 40", ask.of(forty, 0, 40) != due, true);
        Due.is(call + " of version 41", ask.of(forty, 0, 41), due);
    }

    private static void promisesOfOneVersion() {
        for (int w = 0; w < 7; w++) {
            int what = w;
            none("version " + what, -2, (heaps, row, v) -> heaps.version(row, v, what));
        }
        none("order", NONE, (heaps, row, v) -> heaps.order(row, v, 0, false));
        none("order's key", NONE, (heaps, row, v) -> heaps.order(row, v, 0, true));
        for (int w = 0; w < 5; w++) {
            int what = w;
            none("walk " + what, NONE, (heaps, row, v) -> heaps.walk(row, v, 0, what));
        }
        none("root", NONE, (heaps, row, v) -> heaps.root(row, v, 0));
        none("depth", NONE, (heaps, row, v) -> heaps.depth(row, v, 0));
        none("would put", NONE, (heaps, row, v) -> heaps.would(row, v, 1, 5, 0, false));
        none("would meld", NONE, (heaps, row, v) -> heaps.would(row, v, 2, 0, 0, true));
        none("would meld with", NONE, (heaps, row, v) -> heaps.would(row, 0, 2, v, 0, true));
        none("would less", NONE, (heaps, row, v) -> heaps.would(row, v, 3, 0, 0, false));
        none("would lower", NONE, (heaps, row, v) -> heaps.would(row, v, 4, 0, 0, false));
        none("would cut", NONE, (heaps, row, v) -> heaps.would(row, v, 5, 0, 0, false));
        none("below", NONE, (heaps, row, v) -> heaps.below(row, v, 9));
        for (int w = 0; w < 4; w++) {
            int what = w;
            none("drawn " + what, -2, (heaps, row, v) -> heaps.drawn(row, v, 7, 1, what));
        }
        none("looked", NONE, (heaps, row, v) -> heaps.looked(row, v, 0, false));
        none("sum", NONE, (heaps, row, v) -> heaps.looked(row, v, 0, true));
        none("twice", NONE, (heaps, row, v) -> heaps.twice(row, v, false));
        none("fresh", NONE, (heaps, row, v) -> heaps.twice(row, v, true));
    }

    private static void promisesOfTwoVersions() {
        none("comes", 0, (heaps, row, v) -> heaps.comes(row, v, v) ? 1 : 0);
        none("comes", 0, (heaps, row, v) -> heaps.comes(row, v, 0) ? 1 : 0);
        none("meet", NONE, (heaps, row, v) -> heaps.meet(row, v, 0, false));
        none("meet", NONE, (heaps, row, v) -> heaps.meet(row, 0, v, false));
        none("meet", NONE, (heaps, row, v) -> heaps.meet(row, v, v, false));
        none("away", NONE, (heaps, row, v) -> heaps.meet(row, 0, v, true));
        none("away", NONE, (heaps, row, v) -> heaps.meet(row, v, v, true));
        none("shared", NONE, (heaps, row, v) -> heaps.shared(row, v, 1));
        none("shared", NONE, (heaps, row, v) -> heaps.shared(row, 1, v));
        none("shared", NONE, (heaps, row, v) -> heaps.shared(row, v, v));
        none("differ", NONE, (heaps, row, v) -> heaps.differ(row, v, 1));
        none("differ", NONE, (heaps, row, v) -> heaps.differ(row, 1, v));
        none("differ", NONE, (heaps, row, v) -> heaps.differ(row, v, v));
        none("alike", 0, (heaps, row, v) -> heaps.alike(row, v, 1, false) ? 1 : 0);
        none("alike", 0, (heaps, row, v) -> heaps.alike(row, 1, v, false) ? 1 : 0);
        none("alike", 0, (heaps, row, v) -> heaps.alike(row, v, v, false) ? 1 : 0);
        none("same", 0, (heaps, row, v) -> heaps.alike(row, v, 1, true) ? 1 : 0);
        none("same", 0, (heaps, row, v) -> heaps.alike(row, 1, v, true) ? 1 : 0);
        none("same", 0, (heaps, row, v) -> heaps.alike(row, v, v, true) ? 1 : 0);
        none("way", NONE, (heaps, row, v) -> heaps.way(row, 0, v, false));
        none("way", NONE, (heaps, row, v) -> heaps.way(row, v, v, false));
        none("ways", NONE, (heaps, row, v) -> heaps.way(row, 0, v, true));
        none("ways", NONE, (heaps, row, v) -> heaps.way(row, v, v, true));
        none("tallest", NONE, (heaps, row, v) -> heaps.tallest(row, v, 1));
        none("tallest", NONE, (heaps, row, v) -> heaps.tallest(row, 1, v));
        none("tallest", NONE, (heaps, row, v) -> heaps.tallest(row, v, v));
        noneOfEmptyOnes();
    }

    /** An empty version is like none in size alone: it is not alike, nor the same. */
    private static void noneOfEmptyOnes() {
        PastHeaps heaps = Due.of("new;");
        for (int version : new int[] {2, 3, 40, 64, 65, -1, Integer.MIN_VALUE, Integer.MAX_VALUE}) {
            for (boolean flag : new boolean[] {false, true}) {
                Due.is("alike", heaps.alike(0, 0, version, flag), false);
                Due.is("alike", heaps.alike(0, version, 0, flag), false);
                Due.is("alike", heaps.alike(0, version, version, flag), false);
                Due.is("meet", heaps.meet(0, 1, version, flag), NONE);
                Due.is("meet", heaps.meet(0, version, 1, flag), NONE);
                Due.is("way", heaps.way(0, 1, version, flag), NONE);
                Due.is("way", heaps.way(0, version, 1, flag), NONE);
            }
            Due.is("differ", heaps.differ(0, 0, version), NONE);
            Due.is("differ", heaps.differ(0, version, 0), NONE);
            Due.is("shared", heaps.shared(0, 0, version), NONE);
            Due.is("comes", heaps.comes(0, version, 0), false);
            Due.is("comes", heaps.comes(0, 0, version), false);
            Due.is("comes", heaps.comes(0, version, version), false);
        }
    }

    private static void promisesOfRows() {
        ofRows("act", -2, (heaps, row, v) -> heaps.act(row, NONE, 0));
        ofRows("act", -2, (heaps, row, v) -> heaps.act(row, 0, 2));
        ofRows("stop", NONE, (heaps, row, v) -> heaps.stop(row));
        ofRows("did", -100000, (heaps, row, v) -> heaps.did(row, 0, 0));
        ofRows("all", NONE, (heaps, row, v) -> heaps.all(row, false));
        ofRows("all things", NONE, (heaps, row, v) -> heaps.all(row, true));
        ofRows("kept", NONE, (heaps, row, v) -> heaps.kept(row, 2, false));
        ofRows("kept by none", NONE, (heaps, row, v) -> heaps.kept(row, 0, false));
        ofRows("back", NONE, (heaps, row, v) -> heaps.kept(row, 2, true));
        ofRows("heavy", NONE, (heaps, row, v) -> heaps.heavy(row, 2));
        ofRows("cover", NONE, (heaps, row, v) -> heaps.cover(row, 2));
        ofRows("cover of none", NONE, (heaps, row, v) -> heaps.cover(row, 0));
        ofRows("fold", NONE, (heaps, row, v) -> heaps.fold(row, 6, 0));
        ofRows("fold's first", NONE, (heaps, row, v) -> heaps.fold(row, 6, 10));
        ofRows("dearest", NONE, (heaps, row, v) -> heaps.dearest(row, false));
        ofRows("dearest second", NONE, (heaps, row, v) -> heaps.dearest(row, true));
        ofRows("age", NONE, (heaps, row, v) -> heaps.age(row, 0, false));
        ofRows("age", NONE, (heaps, row, v) -> heaps.age(row, 0, true));
        ofRows("lowest", NONE, (heaps, row, v) -> heaps.lowest(row, 0));
        ofRows("over", NONE, (heaps, row, v) -> heaps.over(row, 0));
        ofRows("forget", NONE, (heaps, row, v) -> heaps.forget(row, 2, 0));
    }

    /** All that a small object tells of its rows and its fault. */
    private static String all(PastHeaps heaps) {
        StringBuilder all = new StringBuilder();
        all.append(heaps.count()).append(' ').append(heaps.fault(0)).append(' ').append(heaps.fault(1));
        for (int row = 0; row < heaps.count(); row++) {
            int acts = heaps.act(row, NONE, 0);
            all.append('\n').append(heaps.stop(row)).append(' ').append(heaps.all(row, false));
            all.append(' ').append(heaps.all(row, true));
            for (int k = 0; k < acts; k++) {
                all.append(" act ").append(heaps.act(row, k, 0)).append(' ').append(heaps.did(row, k, 0));
            }
            for (int v = 0; v <= heaps.stop(row); v++) {
                all.append(" version ").append(heaps.version(row, v, 3));
                for (int k = 0; k < heaps.version(row, v, 0); k++) {
                    all.append(' ').append(heaps.walk(row, v, k, 1)).append(' ').append(heaps.walk(row, v, k, 3));
                }
            }
        }
        return all.toString();
    }

    // Promises 2, 3, 4, 37, 38: what is refused changes neither rows nor tape
    private static void refusedCallsChangeNothing() {
        PastHeaps heaps = Due.of("put 0 5;put 1 3;less 2;");
        Due.is("fault", Due.tell(heaps, NONE, "less 41;"), NONE);
        String before = all(heaps);
        Due.write(heaps, Due.times(581, " ") + "put 0 7;", 0);
        Due.is("feed", heaps.feed(0, 0, 0, 0, 0), NONE);
        Due.is("end", heaps.end(590), NONE);
        Due.is("end", heaps.end(-1), NONE);
        Due.is("image", heaps.image(3), false);
        Due.is("again", heaps.again(0), false);
        Due.is("again", heaps.again(-1), false);
        Due.is("all as it was", all(heaps).equals(before), true);
        Due.is("the tape as it was", heaps.end(589), 589);
        Due.is("the tape as it was", heaps.text(NONE), 1);
        Due.is("the tape as it was", heaps.order(1, 1, 0, true), 7);
        // a text refused, and one with a fault, change the fault and the tape alone
        heaps = Due.of("put 0 5;put 1 3;less 2;");
        before = all(heaps);
        Due.is("refused", Due.tell(heaps, 2, "put 0 7;"), -2);
        Due.is("all as it was", all(heaps).equals(before), true);
        Due.is("a fault", Due.tell(heaps, 0, "put 0 7;#"), NONE);
        String rows = before.substring(before.indexOf('\n'));
        Due.is("but for the fault", all(heaps).endsWith(rows), true);
        Due.is("the fault", heaps.fault(0), 1);
    }

    // "each act a further version that leaves all earlier ones whole": what is asked makes nothing
    private static void askingChangesNothing() {
        PastHeaps heaps = Due.of("put 0 5;put 1 3;put 2 8;less 3;meld 3 3;");
        Due.write(heaps, "put 0 7;", 0);
        String before = all(heaps);
        for (int act = 1; act <= 5; act++) {
            heaps.would(0, 5, act, 3, 0, false);
            heaps.would(0, 3, act, 0, 0, true);
            heaps.would(0, 0, act, 100, 100, true);
        }
        heaps.fold(0, 62, 0);
        heaps.fold(0, 6, 11);
        heaps.fold(0, 64, 0);
        heaps.drawn(0, 3, 5, 30, 1);
        heaps.drawn(0, 3, 5, 31, 1);
        heaps.dearest(0, false);
        heaps.cover(0, 63);
        heaps.forget(0, 63, 2);
        heaps.heavy(0, 63);
        heaps.differ(0, 1, 3);
        heaps.looked(0, 5, 6, false);
        Due.is("all as it was", all(heaps).equals(before), true);
        Due.is("the tape as it was", heaps.end(9), NONE);
        Due.is("the tape as it was", heaps.text(NONE), 1);
        Due.is("its key", heaps.order(1, 1, 0, true), 7);
    }
}
