import java.util.Arrays;

/**
 * Heaps as trees of ranks that share nodes: every act of a row makes a further version and leaves all
 * earlier ones whole. What each method answers is told, promise by promise, in the project's document.
 */
public final class PastHeaps {
    /** There is none. */
    public static final int NONE = -1;

    private static final int NO_SUCH = -2;
    private static final int NOT_DONE = -100000;

    private static final int TAPE_BYTES = 600;
    private static final int FED_BYTES = 20;
    private static final int ROWS = 4;
    private static final int IMAGES = 3;
    private static final int ACTS = 40;
    private static final int VERSIONS = ACTS + 1;
    private static final int NUMBERS = 3;

    /** Ranks 0 .. 5: trees of these hold 63 nodes together, the most that a version may have. */
    private static final int RANKS = 6;
    private static final int MOST_NODES = 63;
    private static final int TOP_KEY = 99;
    private static final int CHOSEN = 12;
    private static final int FOLDED = 5;
    private static final int SMALL = 6;
    private static final int DRAWS = 30;

    /** Above the number of any thing: 40 acts and 30 draws put 70 at most. */
    private static final int THINGS = 128;

    private static final int NEW = 0;
    private static final int PUT = 1;
    private static final int MELD = 2;
    private static final int LESS = 3;
    private static final int LOWER = 4;
    private static final int CUT = 5;
    private static final int KINDS = 6;

    /** The greatest that each number of each kind of act may be; -1 where it has no such number. */
    private static final int[] LIMITS = {
        -1, -1, -1,
        40, 99, -1,
        40, 40, -1,
        40, -1, -1,
        40, 39, 99,
        40, 99, -1,
    };

    private final Told now;
    private final Told[] images;
    private final Past[] pasts;
    private final Reader reader;
    private final Acts told;
    private final Walk view;
    private final Walk otherView;
    private final Shares shares;

    public PastHeaps() {
        now = new Told();
        images = new Told[IMAGES];
        pasts = new Past[ROWS];
        reader = new Reader();
        told = new Acts();
        view = new Walk();
        otherView = new Walk();
        shares = new Shares();
    }

    // ---- the tape and the rows

    public int feed(int a, int b, int c, int d, int e) {
        if (now.used + FED_BYTES > TAPE_BYTES) {
            return NONE;
        }
        now.append(a);
        now.append(b);
        now.append(c);
        now.append(d);
        now.append(e);
        return now.used;
    }

    public int end(int n) {
        if (n < 0 || n > now.used) {
            return NONE;
        }
        now.used = n;
        return n;
    }

    public int text(int at) {
        int bytes = now.used;
        now.used = 0;
        now.fault = 0;
        now.place = NONE;
        int row = at == NONE ? now.rows : at;
        boolean can = at == NONE ? now.rows < ROWS : isRow(at);
        if (!can || row < 0 || row >= ROWS) {
            return NO_SUCH;
        }
        reader.readActs(now.tape, bytes, told);
        now.fault = reader.fault;
        now.place = reader.place;
        if (now.fault != 0) {
            return NONE;
        }
        now.acts[row].copyActs(told);
        pastFor(row).runAll(told);
        if (row == now.rows) {
            now.rows++;
        }
        return row;
    }

    public int fault(int what) {
        if (what == 0) {
            return now.fault;
        }
        return what == 1 ? now.place : NONE;
    }

    public int act(int row, int k, int what) {
        if (!isRow(row)) {
            return NO_SUCH;
        }
        Acts acts = now.acts[row];
        if (k == NONE) {
            return what == 0 ? acts.size : NO_SUCH;
        }
        if (k < 0 || k >= acts.size || what < 0 || what > NUMBERS) {
            return NO_SUCH;
        }
        return what == 0 ? acts.kindOf(k) : acts.numberOf(k, what - 1);
    }

    public int stop(int row) {
        Past past = pastOf(row);
        return past == null ? NONE : past.stop;
    }

    public int did(int row, int k, int what) {
        Past past = pastOf(row);
        if (past == null || k < 0 || k >= past.stop) {
            return NOT_DONE;
        }
        switch (what) {
            case 0: return past.made[k];
            case 1: return past.links[k];
            case 2: return past.paid[k];
            default: return NOT_DONE;
        }
    }

    public int all(int row, boolean things) {
        Past past = pastOf(row);
        if (past == null) {
            return NONE;
        }
        return things ? past.things : past.nodes.made;
    }

    public int count() {
        return now.rows;
    }

    public boolean image(int k) {
        if (k < 0 || k >= IMAGES) {
            return false;
        }
        if (images[k] == null) {
            images[k] = new Told();
        }
        images[k].copyTold(now);
        return true;
    }

    public boolean again(int k) {
        if (k < 0 || k >= IMAGES || images[k] == null) {
            return false;
        }
        now.copyTold(images[k]);
        for (int i = 0; i < now.rows && i < ROWS; i++) {
            pastFor(i).runAll(now.acts[i]);
        }
        return true;
    }

    // ---- what a version holds

    public int version(int row, int version, int what) {
        Past past = pastOf(row);
        if (past == null || !past.has(version)) {
            return NO_SUCH;
        }
        switch (what) {
            case 0: return past.sizeOf(version);
            case 1: return past.creditOf(version);
            case 2: return shares.heldByAll(past.nodes, bit(version));
            case 3: return shares.heldOnlyBy(past.nodes, bit(version));
            case 4: return seen(past, version).middle();
            case 5: return seen(past, version).widestGap();
            case 6: return past.greatestRank(version);
            default: return NO_SUCH;
        }
    }

    public int order(int row, int version, int k, boolean key) {
        Past past = pastOf(row);
        if (past == null || !past.has(version) || k < 0 || k >= past.sizeOf(version)) {
            return NONE;
        }
        int weight = view.weights[seen(past, version).sorted[k]];
        return key ? keyIn(weight) : thingIn(weight);
    }

    public int walk(int row, int version, int k, int what) {
        Past past = pastOf(row);
        if (past == null || !past.has(version) || k < 0 || k >= past.sizeOf(version)) {
            return NONE;
        }
        seen(past, version);
        switch (what) {
            case 0: return thingIn(view.weights[k]);
            case 1: return keyIn(view.weights[k]);
            case 2: return past.nodes.rankOf(view.places[k]);
            case 3: return view.places[k];
            case 4: return view.depths[k];
            default: return NONE;
        }
    }

    public int root(int row, int version, int rank) {
        Past past = pastOf(row);
        if (past == null || !past.has(version) || rank < 0 || rank >= RANKS) {
            return NONE;
        }
        return past.roots[version][rank];
    }

    public int depth(int row, int version, int thing) {
        Past past = pastOf(row);
        if (past == null || !past.has(version)) {
            return NONE;
        }
        return seen(past, version).leastDepth(thing);
    }

    public int below(int row, int version, int key) {
        Past past = pastOf(row);
        if (past == null || !past.has(version)) {
            return NONE;
        }
        return seen(past, version).howManyBelow(key);
    }

    public int looked(int row, int version, int k, boolean sum) {
        Past past = pastOf(row);
        if (past == null || !past.has(version) || k < 0 || k > past.sizeOf(version)) {
            return NONE;
        }
        seen(past, version);
        return sum ? view.sumOfFirst(k) : view.everListed(k);
    }

    public int twice(int row, int version, boolean fresh) {
        Past past = pastOf(row);
        if (past == null || !past.has(version)) {
            return NONE;
        }
        if (fresh) {
            return shares.heldWithout(past.nodes, bit(version), past.lines.parentsOf(version));
        }
        return seen(past, version).thingsTwice();
    }

    public int differ(int row, int a, int b) {
        Past past = pastOf(row);
        if (past == null || !past.has(a) || !past.has(b) || past.sizeOf(a) > SMALL || past.sizeOf(b) > SMALL) {
            return NONE;
        }
        seeBoth(past, a, b);
        if (view.thingsTwice() > 0 || otherView.thingsTwice() > 0) {
            return NONE;
        }
        return view.fewestActsTo(otherView);
    }

    public boolean alike(int row, int a, int b, boolean same) {
        Past past = pastOf(row);
        if (past == null || !past.has(a) || !past.has(b)) {
            return false;
        }
        seeBoth(past, a, b);
        return same ? view.walksLike(otherView) : view.holdsLike(otherView);
    }

    // ---- from where versions come

    public boolean comes(int row, int version, int from) {
        Past past = pastOf(row);
        return past != null && past.has(version) && past.has(from) && past.lines.isFrom(version, from);
    }

    public int meet(int row, int a, int b, boolean away) {
        Past past = pastOf(row);
        if (past == null || !past.has(a) || !past.has(b)) {
            return NONE;
        }
        return away ? past.lines.fewestActs(a, b) : past.lines.lastCommon(a, b);
    }

    public long way(int row, int a, int b, boolean many) {
        Past past = pastOf(row);
        if (past == null || !past.has(a) || !past.has(b)) {
            return NONE;
        }
        return many ? past.lines.howManyWays(a, b) : past.lines.mostLinks(a, b, past.links);
    }

    public int over(int row, int c) {
        Past past = pastOf(row);
        return past == null ? NONE : past.firstPaidAbove(c);
    }

    // ---- what versions share and have alone

    public int shared(int row, int a, int b) {
        Past past = pastOf(row);
        if (past == null || !past.has(a) || !past.has(b)) {
            return NONE;
        }
        return shares.heldByAll(past.nodes, bit(a) | bit(b));
    }

    public int tallest(int row, int a, int b) {
        Past past = pastOf(row);
        if (past == null || !past.has(a) || !past.has(b)) {
            return NONE;
        }
        return shares.greatestRank(past.nodes, bit(a) | bit(b));
    }

    public int kept(int row, long pinned, boolean back) {
        Past past = pastOf(row);
        if (past == null || !past.hasAll(pinned)) {
            return NONE;
        }
        int kept = shares.heldByAny(past.nodes, pinned);
        return back ? past.nodes.made - kept : kept;
    }

    public int heavy(int row, long pinned) {
        Past past = pastOf(row);
        if (past == null || !past.hasAll(pinned)) {
            return NONE;
        }
        return shares.heaviest(past.nodes, pinned);
    }

    public long cover(int row, long pinned) {
        Past past = pastOf(row);
        if (past == null || !past.hasAll(pinned) || Long.bitCount(pinned) > CHOSEN) {
            return NONE;
        }
        return shares.fewestKeeping(past.nodes, pinned);
    }

    public long forget(int row, long versions, int n) {
        Past past = pastOf(row);
        if (past == null || !past.hasAll(versions) || Long.bitCount(versions) > CHOSEN || n < 0) {
            return NONE;
        }
        return shares.fewestGiving(past.nodes, versions, n);
    }

    public int age(int row, int thing, boolean last) {
        Past past = pastOf(row);
        if (past == null) {
            return NONE;
        }
        long having = shares.versionsWith(past.nodes, thing);
        return last ? lastOf(having) : firstOf(having);
    }

    public int lowest(int row, int thing) {
        Past past = pastOf(row);
        return past == null ? NONE : shares.leastKeyOf(past.nodes, thing);
    }

    // ---- what would be

    public int would(int row, int version, int act, int a, int b, boolean links) {
        Past past = pastOf(row);
        if (past == null || act < PUT || act > CUT) {
            return NONE;
        }
        boolean keyed = act == PUT || act == LOWER || act == CUT;
        int key = act == LOWER ? b : a;
        if (keyed && (key < 0 || key > TOP_KEY)) {
            return NONE;
        }
        return past.wouldMake(act, version, a, b, links);
    }

    public int fold(int row, long versions, int what) {
        Past past = pastOf(row);
        int many = Long.bitCount(versions);
        if (past == null || !past.hasAll(versions) || many < 2 || many > FOLDED) {
            return NONE;
        }
        if (past.sizeTogether(versions) > MOST_NODES) {
            return NONE;
        }
        if (what != 0 && (what < 10 || what >= 10 + many)) {
            return NONE;
        }
        int fewest = past.bestFold(versions, many);
        return what == 0 ? fewest : past.best[what - 10];
    }

    public int dearest(int row, boolean second) {
        Past past = pastOf(row);
        return past == null ? NONE : past.dearestOf(second);
    }

    public int drawn(int row, int version, int seed, int k, int what) {
        Past past = pastOf(row);
        if (past == null || !past.has(version) || k < 1 || k > DRAWS || what < 0 || what > 3) {
            return NO_SUCH;
        }
        return past.drawFrom(version, seed, k, what);
    }

    // ---- helpers of the face

    private boolean isRow(int row) {
        return row >= 0 && row < now.rows && row < ROWS;
    }

    private Past pastOf(int row) {
        return isRow(row) ? pasts[row] : null;
    }

    /** Made when it is needed first, so that an object without rows stays small. */
    private Past pastFor(int row) {
        if (pasts[row] == null) {
            pasts[row] = new Past();
        }
        return pasts[row];
    }

    private Walk seen(Past past, int version) {
        view.look(past.nodes, past.roots[version]);
        view.sort();
        return view;
    }

    private void seeBoth(Past past, int a, int b) {
        seen(past, a);
        otherView.look(past.nodes, past.roots[b]);
        otherView.sort();
    }

    private static long bit(int version) {
        return 1L << version;
    }

    private static int firstOf(long bits) {
        return bits == 0 ? NONE : Long.bitCount((bits & -bits) - 1);
    }

    private static int lastOf(long bits) {
        int last = NONE;
        for (int i = 0; i < VERSIONS; i++) {
            if ((bits & bit(i)) != 0) {
                last = i;
            }
        }
        return last;
    }

    /** Of two nodes that with the lesser weight is the lesser one: the key counts first, then the thing. */
    private static int weigh(int thing, int key) {
        return key * THINGS + thing;
    }

    private static int thingIn(int weight) {
        return weight % THINGS;
    }

    private static int keyIn(int weight) {
        return weight / THINGS;
    }

    /** A row of acts as they were told, those that can't be too. */
    private static final class Acts {
        private final int[] kinds = new int[ACTS];
        private final int[] numbers = new int[ACTS * NUMBERS];
        private int size;

        void clear() {
            size = 0;
        }

        void begin(int kind) {
            if (size < ACTS) {
                kinds[size] = kind;
                Arrays.fill(numbers, size * NUMBERS, size * NUMBERS + NUMBERS, NONE);
                size++;
            }
        }

        void tellLast(int i, int number) {
            if (size > 0 && i >= 0 && i < NUMBERS) {
                numbers[(size - 1) * NUMBERS + i] = number;
            }
        }

        int kindOf(int k) {
            return k >= 0 && k < size ? kinds[k] : NONE;
        }

        int numberOf(int k, int i) {
            return k >= 0 && k < size && i >= 0 && i < NUMBERS ? numbers[k * NUMBERS + i] : NONE;
        }

        void copyActs(Acts from) {
            size = from.size;
            System.arraycopy(from.kinds, 0, kinds, 0, ACTS);
            System.arraycopy(from.numbers, 0, numbers, 0, ACTS * NUMBERS);
        }
    }

    /** All that is told: what an image has. Versions follow from it, so that no image needs to hold nodes. */
    private static final class Told {
        private final byte[] tape = new byte[TAPE_BYTES];
        private final Acts[] acts = new Acts[ROWS];
        private int used;
        private int fault;
        private int place = NONE;
        private int rows;

        Told() {
            for (int i = 0; i < ROWS; i++) {
                acts[i] = new Acts();
            }
        }

        void append(int number) {
            for (int shift = 24; shift >= 0 && used < TAPE_BYTES; shift -= 8) {
                tape[used] = (byte) (number >>> shift);
                used++;
            }
        }

        void copyTold(Told from) {
            System.arraycopy(from.tape, 0, tape, 0, TAPE_BYTES);
            used = from.used;
            fault = from.fault;
            place = from.place;
            rows = from.rows;
            for (int i = 0; i < ROWS; i++) {
                acts[i].copyActs(from.acts[i]);
            }
        }
    }

    /** Reads a text of acts and finds its fault. */
    private static final class Reader {
        private static final int END = 0;
        private static final int WORD = 1;
        private static final int NUMBER = 2;
        private static final int MARK = 3;
        private static final int WRONG = 4;

        private byte[] tape = new byte[0];
        private int used;
        private int start;
        private int behind;
        private int token;
        private int value;
        private int begun;
        private int fault;
        private int place;

        void readActs(byte[] bytes, int n, Acts into) {
            tape = bytes;
            used = Math.min(n, bytes.length);
            behind = 0;
            begun = 0;
            fault = 0;
            place = NONE;
            into.clear();
            boolean goesOn = true;
            for (int line = 0; goesOn && line <= TAPE_BYTES; line++) {
                goesOn = readLine(into);
            }
            if (begun == 0) {
                note(4, used);
            }
        }

        private boolean readLine(Acts into) {
            nextToken();
            if (token == END) {
                return false;
            }
            if (token != WORD || value == NONE) {
                return goesNoFurther();
            }
            int kind = value;
            boolean tooMany = begun >= ACTS;
            begun++;
            if (tooMany) {
                note(3, start);
            } else {
                into.begin(kind);
            }
            for (int i = 0; i < NUMBERS && LIMITS[kind * NUMBERS + i] != NONE; i++) {
                nextToken();
                if (token != NUMBER) {
                    return goesNoFurther();
                }
                if (value > LIMITS[kind * NUMBERS + i]) {
                    note(2, start);
                }
                if (!tooMany) {
                    into.tellLast(i, value);
                }
            }
            nextToken();
            return token == MARK || goesNoFurther();
        }

        /** Fault 1 goes before all others, wherever these are. */
        private boolean goesNoFurther() {
            fault = 1;
            place = start;
            return false;
        }

        /** Of the other faults the first one by place is also the first one found. */
        private void note(int what, int where) {
            if (fault == 0) {
                fault = what;
                place = where;
            }
        }

        private void nextToken() {
            start = behind;
            while (start < used && (tape[start] == 10 || tape[start] == 32)) {
                start++;
            }
            behind = start;
            value = NONE;
            if (start >= used) {
                token = END;
            } else if (isLetter(tape[start])) {
                readWord();
            } else if (isDigit(tape[start])) {
                readNumber();
            } else {
                behind = start + 1;
                token = tape[start] == ';' ? MARK : WRONG;
            }
        }

        private void readWord() {
            while (behind < used && isLetter(tape[behind])) {
                behind++;
            }
            token = WORD;
            for (int kind = 0; kind < KINDS; kind++) {
                if (tells(nameOf(kind))) {
                    value = kind;
                }
            }
        }

        private boolean tells(String name) {
            boolean like = name.length() == behind - start;
            for (int i = 0; like && i < name.length(); i++) {
                like = tape[start + i] == name.charAt(i);
            }
            return like;
        }

        private void readNumber() {
            value = 0;
            while (behind < used && isDigit(tape[behind])) {
                value = value * 10 + tape[behind] - '0';
                behind++;
            }
            token = behind - start <= 2 ? NUMBER : WRONG;
        }

        private static String nameOf(int kind) {
            switch (kind) {
                case NEW: return "new";
                case PUT: return "put";
                case MELD: return "meld";
                case LESS: return "less";
                case LOWER: return "lower";
                default: return "cut";
            }
        }

        private static boolean isLetter(int sign) {
            return sign >= 'a' && sign <= 'z';
        }

        private static boolean isDigit(int sign) {
            return sign >= '0' && sign <= '9';
        }
    }

    /** All nodes of a row, and heaps of them: of each rank the number of a root, or NONE. */
    private static final class Nodes {
        private static final int AT_FIRST = 64;
        private static final int WEIGHT = 0;
        private static final int RANK = 1;
        private static final int BELOW = 2;
        private static final int CELLS = BELOW + RANKS - 1;

        private int[] cells = new int[AT_FIRST * CELLS];
        /** Of each node the versions that hold it, as bits. */
        private long[] holders = new long[AT_FIRST];
        private final int[] loose = new int[RANKS];
        private final int[] path = new int[RANKS];
        private final Walk trail = new Walk();
        private int made;
        private int links;

        void dropBehind(int first) {
            made = Math.max(0, Math.min(made, first));
            links = 0;
        }

        int weightOf(int node) {
            return node >= 0 && node < made ? cells[node * CELLS + WEIGHT] : NONE;
        }

        int rankOf(int node) {
            return node >= 0 && node < made ? cells[node * CELLS + RANK] : NONE;
        }

        int childOf(int node, int i) {
            boolean may = node >= 0 && node < made && i >= 0 && i < RANKS - 1;
            return may ? cells[node * CELLS + BELOW + i] : NONE;
        }

        long holdersOf(int node) {
            return node >= 0 && node < made ? holders[node] : 0;
        }

        void markHolder(int node, long version) {
            if (node >= 0 && node < made) {
                holders[node] |= version;
            }
        }

        private void setChild(int node, int i, int child) {
            if (node >= 0 && node < made && i >= 0 && i < RANKS - 1) {
                cells[node * CELLS + BELOW + i] = child;
            }
        }

        int makeNode(int weight, int rank) {
            if (made >= holders.length) {
                cells = Arrays.copyOf(cells, cells.length * 2);
                holders = Arrays.copyOf(holders, holders.length * 2);
            }
            int node = made;
            made++;
            holders[node] = 0;
            int first = node * CELLS;
            cells[first + WEIGHT] = weight;
            cells[first + RANK] = rank;
            Arrays.fill(cells, first + BELOW, first + CELLS, NONE);
            return node;
        }

        private int linked(int first, int second) {
            boolean turned = weightOf(second) < weightOf(first);
            int top = turned ? second : first;
            int rank = rankOf(top);
            int node = makeNode(weightOf(top), rank + 1);
            setChild(node, 0, turned ? first : second);
            for (int i = 0; i < rank; i++) {
                setChild(node, i + 1, childOf(top, i));
            }
            links++;
            return node;
        }

        void meldInto(int[] first, int[] second) {
            int carried = NONE;
            for (int rank = 0; rank < RANKS; rank++) {
                int a = first[rank];
                int b = second[rank];
                if (a != NONE && b != NONE) {
                    first[rank] = carried;
                    carried = linked(a, b);
                } else {
                    int one = a == NONE ? b : a;
                    boolean two = carried != NONE && one != NONE;
                    first[rank] = two ? NONE : carried == NONE ? one : carried;
                    carried = two ? linked(carried, one) : NONE;
                }
            }
        }

        /** The rank of the tree with the lesser root, NONE of an empty heap. */
        int leastRank(int[] heap) {
            int least = NONE;
            for (int rank = 0; rank < RANKS; rank++) {
                if (heap[rank] != NONE && (least == NONE || weightOf(heap[rank]) < weightOf(heap[least]))) {
                    least = rank;
                }
            }
            return least;
        }

        int leastKey(int[] heap) {
            int rank = leastRank(heap);
            return rank == NONE ? NONE : keyIn(weightOf(heap[rank]));
        }

        boolean takeLeast(int[] heap) {
            int rank = leastRank(heap);
            if (rank == NONE) {
                return false;
            }
            int root = heap[rank];
            heap[rank] = NONE;
            Arrays.fill(loose, NONE);
            for (int i = 0; i < rank; i++) {
                loose[i] = childOf(root, rank - 1 - i);
            }
            meldInto(heap, loose);
            return true;
        }

        boolean lowerTo(int[] heap, int thing, int key) {
            trail.look(this, heap);
            int at = trail.firstNotBelow(thing, key);
            int deep = at == NONE ? NONE : trail.depths[at];
            if (deep < 0 || deep >= RANKS) {
                return false;
            }
            for (int d = deep; d >= 0 && at != NONE; d--) {
                path[d] = trail.places[at];
                at = trail.ups[at];
            }
            int lowered = weigh(thing, key);
            int rise = deep;
            while (rise > 0 && lowered < weightOf(path[rise - 1])) {
                rise--;
            }
            int first = made;
            for (int d = 0; d <= deep; d++) {
                // What stood where the lowered thing rises to, and all below that on the path, goes one place down.
                remake(path[d], d == rise ? lowered : weightOf(path[d > rise ? d - 1 : d]));
                if (d < deep) {
                    setChild(first + d, rankOf(path[d]) - 1 - rankOf(path[d + 1]), first + d + 1);
                }
            }
            int rank = rankOf(path[0]);
            if (rank >= 0 && rank < RANKS) {
                heap[rank] = first;
            }
            return true;
        }

        private void remake(int old, int weight) {
            int rank = rankOf(old);
            int node = makeNode(weight, rank);
            for (int i = 0; i < rank; i++) {
                setChild(node, i, childOf(old, i));
            }
        }
    }

    /** A version as it is walked, and its order: a node that stands in several places is met in each of them. */
    private static final class Walk {
        private final int[] places = new int[MOST_NODES];
        private final int[] weights = new int[MOST_NODES];
        private final int[] ups = new int[MOST_NODES];
        private final int[] depths = new int[MOST_NODES];
        private final int[] sorted = new int[MOST_NODES];
        private final int[] open = new int[MOST_NODES];
        private final int[] openUps = new int[MOST_NODES];
        private final boolean[] listed = new boolean[MOST_NODES];
        private int size;
        private int opened;

        void look(Nodes nodes, int[] heap) {
            size = 0;
            opened = 0;
            for (int rank = RANKS - 1; rank >= 0; rank--) {
                push(heap[rank], NONE);
            }
            while (opened > 0 && size < MOST_NODES) {
                opened--;
                int node = open[opened];
                int up = openUps[opened];
                int at = size;
                size++;
                places[at] = node;
                weights[at] = nodes.weightOf(node);
                ups[at] = up;
                depths[at] = up == NONE ? 0 : depths[up] + 1;
                for (int i = nodes.rankOf(node) - 1; i >= 0; i--) {
                    push(nodes.childOf(node, i), at);
                }
            }
        }

        private void push(int node, int up) {
            if (node != NONE && opened < MOST_NODES) {
                open[opened] = node;
                openUps[opened] = up;
                opened++;
            }
        }

        void sort() {
            for (int i = 0; i < size; i++) {
                int to = i;
                while (to > 0 && weights[i] < weights[sorted[to - 1]]) {
                    sorted[to] = sorted[to - 1];
                    to--;
                }
                sorted[to] = i;
            }
        }

        int firstNotBelow(int thing, int key) {
            for (int i = 0; i < size; i++) {
                if (thingIn(weights[i]) == thing && keyIn(weights[i]) >= key) {
                    return i;
                }
            }
            return NONE;
        }

        int leastDepth(int thing) {
            int least = NONE;
            for (int i = 0; i < size; i++) {
                if (thingIn(weights[i]) == thing && (least == NONE || depths[i] < least)) {
                    least = depths[i];
                }
            }
            return least;
        }

        int middle() {
            return size == 0 ? NONE : thingIn(weights[sorted[size / 2]]);
        }

        int widestGap() {
            int widest = 0;
            for (int i = 1; i < size; i++) {
                widest = Math.max(widest, keyIn(weights[sorted[i]]) - keyIn(weights[sorted[i - 1]]));
            }
            return widest;
        }

        int howManyBelow(int key) {
            int many = 0;
            for (int i = 0; i < size; i++) {
                if (keyIn(weights[i]) < key) {
                    many++;
                }
            }
            return many;
        }

        int sumOfFirst(int k) {
            int sum = 0;
            for (int i = 0; i < k && i < size; i++) {
                sum += keyIn(weights[sorted[i]]);
            }
            return sum;
        }

        int everListed(int k) {
            int ever = list(NONE);
            for (int i = 0; i < k && i < size; i++) {
                int least = leastListed();
                if (least != NONE) {
                    listed[least] = false;
                    ever += list(least);
                }
            }
            return ever;
        }

        /** Puts on the list what is right below a place (the roots below NONE). */
        private int list(int up) {
            int many = 0;
            for (int i = 0; i < size; i++) {
                if (up == NONE) {
                    listed[i] = false;
                }
                if (ups[i] == up) {
                    listed[i] = true;
                    many++;
                }
            }
            return many;
        }

        private int leastListed() {
            int least = NONE;
            for (int i = 0; i < size; i++) {
                if (listed[i] && (least == NONE || weights[i] < weights[least])) {
                    least = i;
                }
            }
            return least;
        }

        int thingsTwice() {
            int many = 0;
            for (int i = 0; i < size; i++) {
                int like = 0;
                for (int j = 0; j < i; j++) {
                    if (thingIn(weights[j]) == thingIn(weights[i])) {
                        like++;
                    }
                }
                if (like == 1) {
                    many++;
                }
            }
            return many;
        }

        boolean walksLike(Walk other) {
            boolean like = size == other.size;
            for (int i = 0; like && i < size; i++) {
                like = weights[i] == other.weights[i];
            }
            return like;
        }

        boolean holdsLike(Walk other) {
            boolean like = size == other.size;
            for (int i = 0; like && i < size; i++) {
                like = weights[sorted[i]] == other.weights[other.sorted[i]];
            }
            return like;
        }

        private int keyOfThing(int thing) {
            for (int i = 0; i < size; i++) {
                if (thingIn(weights[i]) == thing) {
                    return keyIn(weights[i]);
                }
            }
            return NONE;
        }

        /**
         * A thing goes by one act only when all lesser ones went before it: so some first ones in order go
         * by less alone, and each later one that must go is lowered first.
         */
        int fewestActsTo(Walk goal) {
            int puts = 0;
            for (int i = 0; i < goal.size; i++) {
                if (keyOfThing(thingIn(goal.weights[i])) == NONE) {
                    puts++;
                }
            }
            int fewest = NONE;
            for (int gone = 0; gone <= size; gone++) {
                int acts = puts;
                for (int i = 0; i < size; i++) {
                    int weight = weights[sorted[i]];
                    acts += actsFor(keyIn(weight), goal.keyOfThing(thingIn(weight)), i < gone);
                }
                if (fewest == NONE || acts < fewest) {
                    fewest = acts;
                }
            }
            return fewest;
        }

        private static int actsFor(int key, int goal, boolean gone) {
            int again = goal == NONE ? 0 : 1;
            if (gone) {
                return 1 + again;
            }
            if (goal == NONE || goal > key) {
                return 2 + again;
            }
            return goal < key ? 1 : 0;
        }
    }

    /** From which versions each version comes. */
    private static final class Lines {
        private final int[] firsts = new int[VERSIONS];
        private final int[] seconds = new int[VERSIONS];
        private final long[] froms = new long[VERSIONS];
        private final long[] tally = new long[VERSIONS];

        void add(int version, int first, int second) {
            if (version >= 0 && version < VERSIONS) {
                firsts[version] = first < version ? first : NONE;
                seconds[version] = second < version ? second : NONE;
                froms[version] = bit(version) | fromsOf(first) | fromsOf(second);
            }
        }

        private long fromsOf(int version) {
            return version >= 0 && version < VERSIONS ? froms[version] : 0;
        }

        long parentsOf(int version) {
            if (version < 0 || version >= VERSIONS) {
                return 0;
            }
            long first = firsts[version] == NONE ? 0 : bit(firsts[version]);
            return seconds[version] == NONE ? first : first | bit(seconds[version]);
        }

        boolean isFrom(int version, int from) {
            return from >= 0 && from < VERSIONS && (fromsOf(version) & bit(from)) != 0;
        }

        int lastCommon(int a, int b) {
            return lastOf(fromsOf(a) & fromsOf(b));
        }

        private long tallyOf(int version) {
            return version >= 0 && version < VERSIONS ? tally[version] : NONE;
        }

        private void start(int a) {
            Arrays.fill(tally, NONE);
            if (a >= 0 && a < VERSIONS) {
                tally[a] = 0;
            }
        }

        int fewestActs(int a, int b) {
            start(a);
            for (int v = a + 1; v <= b && v < VERSIONS; v++) {
                long first = tallyOf(firsts[v]);
                long second = tallyOf(seconds[v]);
                long least = first == NONE || second == NONE ? Math.max(first, second) : Math.min(first, second);
                tally[v] = least == NONE ? NONE : least + 1;
            }
            return (int) tallyOf(b);
        }

        long mostLinks(int a, int b, int[] links) {
            start(a);
            for (int v = a + 1; v <= b && v < VERSIONS && v <= links.length; v++) {
                long most = Math.max(tallyOf(firsts[v]), tallyOf(seconds[v]));
                tally[v] = most == NONE ? NONE : most + links[v - 1];
            }
            return tallyOf(b);
        }

        long howManyWays(int a, int b) {
            if (!isFrom(b, a)) {
                return NONE;
            }
            start(a);
            tally[a] = 1;
            for (int v = a + 1; v <= b && v < VERSIONS; v++) {
                tally[v] = Math.max(0, tallyOf(firsts[v])) + Math.max(0, tallyOf(seconds[v]));
            }
            return tallyOf(b);
        }
    }

    /** What the acts of a row made: its versions, up to the first act that can't be. */
    private static final class Past {
        private final Nodes nodes = new Nodes();
        private final Lines lines = new Lines();
        private final int[][] roots = new int[VERSIONS][RANKS];
        private final int[] sizes = new int[VERSIONS];
        private final int[] made = new int[ACTS];
        private final int[] links = new int[ACTS];
        private final int[] paid = new int[ACTS];
        private final int[] heap = new int[RANKS];
        private final int[] other = new int[RANKS];
        private final int[] turn = new int[FOLDED];
        private final int[] best = new int[FOLDED];
        private int stop;
        private int things;
        private int x;

        boolean has(int version) {
            return version >= 0 && version <= stop;
        }

        boolean hasAll(long versions) {
            return (versions & -bit(stop + 1)) == 0;
        }

        int sizeOf(int version) {
            return has(version) ? sizes[version] : 0;
        }

        /** Trees of unlike ranks stand for the ones in the size's binary digits. */
        int creditOf(int version) {
            return Integer.bitCount(sizeOf(version));
        }

        int greatestRank(int version) {
            int greatest = NONE;
            for (int rank = 0; rank < RANKS && has(version); rank++) {
                if (roots[version][rank] != NONE) {
                    greatest = rank;
                }
            }
            return greatest;
        }

        void runAll(Acts acts) {
            nodes.dropBehind(0);
            things = 0;
            stop = 0;
            Arrays.fill(heap, NONE);
            keepHeap();
            lines.add(0, NONE, NONE);
            boolean can = true;
            for (int k = 0; can && k < acts.size && k < ACTS; k++) {
                int before = nodes.made;
                nodes.links = 0;
                can = perform(acts.kindOf(k), acts.numberOf(k, 0), acts.numberOf(k, 1), acts.numberOf(k, 2));
                if (can) {
                    keepAct(acts, k, before);
                }
            }
            for (int v = 0; v <= stop; v++) {
                markNodes(v);
            }
        }

        private void markNodes(int version) {
            Walk trail = nodes.trail;
            trail.look(nodes, roots[version]);
            for (int i = 0; i < trail.size; i++) {
                nodes.markHolder(trail.places[i], bit(version));
            }
        }

        private void keepAct(Acts acts, int k, int nodesBefore) {
            int first = acts.numberOf(k, 0);
            int second = acts.kindOf(k) == MELD ? acts.numberOf(k, 1) : NONE;
            made[k] = nodes.made - nodesBefore;
            links[k] = nodes.links;
            paid[k] = links[k] + Integer.bitCount(heapSize()) - creditOf(first) - creditOf(second);
            stop = k + 1;
            keepHeap();
            lines.add(stop, first, second);
        }

        private void keepHeap() {
            System.arraycopy(heap, 0, roots[stop], 0, RANKS);
            sizes[stop] = heapSize();
        }

        private int heapSize() {
            int size = 0;
            for (int rank = 0; rank < RANKS; rank++) {
                if (heap[rank] != NONE) {
                    size += 1 << rank;
                }
            }
            return size;
        }

        /** Leaves in heap what the act makes; nothing is made by an act that can't be. */
        private boolean perform(int kind, int version, int a, int b) {
            if (kind == NEW) {
                Arrays.fill(heap, NONE);
                return true;
            }
            if (!has(version)) {
                return false;
            }
            load(version, heap);
            switch (kind) {
                case PUT: return putIn(a);
                case MELD: return meldWith(a);
                case LESS: return nodes.takeLeast(heap);
                case LOWER: return nodes.lowerTo(heap, a, b);
                case CUT:
                    for (int i = 0; i < MOST_NODES && nodes.leastKey(heap) < a; i++) {
                        nodes.takeLeast(heap);
                    }
                    return true;
                default: return false;
            }
        }

        private void load(int version, int[] into) {
            if (has(version)) {
                System.arraycopy(roots[version], 0, into, 0, RANKS);
            }
        }

        private boolean putIn(int key) {
            if (heapSize() >= MOST_NODES) {
                return false;
            }
            Arrays.fill(other, NONE);
            other[0] = nodes.makeNode(weigh(things, key), 0);
            things++;
            nodes.meldInto(heap, other);
            return true;
        }

        private boolean meldWith(int version) {
            if (!has(version) || heapSize() + sizes[version] > MOST_NODES) {
                return false;
            }
            load(version, other);
            nodes.meldInto(heap, other);
            return true;
        }

        int firstPaidAbove(int c) {
            for (int k = 0; k < stop; k++) {
                if (paid[k] > c) {
                    return k;
                }
            }
            return NONE;
        }

        int wouldMake(int kind, int version, int a, int b, boolean ofLinks) {
            int nodesNow = nodes.made;
            int thingsNow = things;
            nodes.links = 0;
            boolean can = perform(kind, version, a, b);
            int answer = ofLinks ? nodes.links : nodes.made - nodesNow;
            nodes.dropBehind(nodesNow);
            things = thingsNow;
            return can ? answer : NONE;
        }

        int sizeTogether(long versions) {
            int together = 0;
            for (int v = 0; v <= stop; v++) {
                if ((versions & bit(v)) != 0) {
                    together += sizes[v];
                }
            }
            return together;
        }

        /** Leaves the order in best. */
        int bestFold(long versions, int many) {
            int filled = 0;
            for (int v = 0; v <= stop && filled < FOLDED; v++) {
                if ((versions & bit(v)) != 0) {
                    turn[filled] = v;
                    filled++;
                }
            }
            int fewest = NONE;
            boolean more = filled == many;
            for (int i = 0; more && i < 120; i++) {
                int makes = foldedMakes(filled);
                if (fewest == NONE || makes < fewest) {
                    fewest = makes;
                    System.arraycopy(turn, 0, best, 0, FOLDED);
                }
                more = nextTurn(filled);
            }
            return fewest;
        }

        private int foldedMakes(int many) {
            int nodesNow = nodes.made;
            load(turn[0], heap);
            for (int i = 1; i < many; i++) {
                meldWith(turn[i]);
            }
            int before = nodes.made;
            nodes.takeLeast(heap);
            int makes = nodes.made - before;
            nodes.dropBehind(nodesNow);
            return makes;
        }

        /** The next order by rows; false behind the last one. */
        private boolean nextTurn(int many) {
            int at = many - 2;
            while (at >= 0 && turn[at] > turn[at + 1]) {
                at--;
            }
            if (at < 0) {
                return false;
            }
            int with = many - 1;
            while (with > at + 1 && turn[with] < turn[at]) {
                with--;
            }
            swapTurns(at, with);
            for (int low = at + 1, high = many - 1; low < high; low++, high--) {
                swapTurns(low, high);
            }
            return true;
        }

        private void swapTurns(int i, int j) {
            int kept = turn[i];
            turn[i] = turn[j];
            turn[j] = kept;
        }

        /** Each link leaves one tree fewer, so that trees tell how many links a meld makes. */
        int dearestOf(boolean second) {
            int most = NONE;
            int answer = NONE;
            for (int a = 0; a <= stop; a++) {
                for (int b = a; b <= stop; b++) {
                    int together = sizes[a] + sizes[b];
                    int makes = creditOf(a) + creditOf(b) - Integer.bitCount(together);
                    if (together <= MOST_NODES && makes > most) {
                        most = makes;
                        answer = second ? b : a;
                    }
                }
            }
            return answer;
        }

        private int drawBelow(int n) {
            x = x * 1103515245 + 12345;
            return n > 0 ? (x >>> 16) % n : 0;
        }

        int drawFrom(int version, int seed, int k, int what) {
            int nodesNow = nodes.made;
            int thingsNow = things;
            nodes.links = 0;
            x = seed;
            load(version, heap);
            for (int i = 0; i < k; i++) {
                boolean takes = drawBelow(3) == 0 && heapSize() > 0;
                if (takes) {
                    nodes.takeLeast(heap);
                } else if (heapSize() < MOST_NODES) {
                    putIn(drawBelow(100));
                }
            }
            int answer = drawnAnswer(what, nodesNow);
            nodes.dropBehind(nodesNow);
            things = thingsNow;
            return answer;
        }

        private int drawnAnswer(int what, int nodesBefore) {
            switch (what) {
                case 0: return heapSize();
                case 1: return nodes.links;
                case 2: return nodes.leastKey(heap);
                default: return nodes.made - nodesBefore;
            }
        }
    }

    /** Which versions hold which nodes. */
    private static final class Shares {
        /** By which of the chosen versions hold them: how many nodes there are. */
        private int[] table = new int[1];
        private final int[] chosen = new int[CHOSEN];
        private final int[] alone = new int[VERSIONS];
        private int many;

        int heldByAll(Nodes nodes, long versions) {
            int held = 0;
            for (int node = 0; node < nodes.made; node++) {
                if ((nodes.holdersOf(node) & versions) == versions) {
                    held++;
                }
            }
            return held;
        }

        int heldByAny(Nodes nodes, long versions) {
            int held = 0;
            for (int node = 0; node < nodes.made; node++) {
                if ((nodes.holdersOf(node) & versions) != 0) {
                    held++;
                }
            }
            return held;
        }

        int heldOnlyBy(Nodes nodes, long version) {
            return heldWithout(nodes, version, ~version);
        }

        int heldWithout(Nodes nodes, long version, long without) {
            int held = 0;
            for (int node = 0; node < nodes.made; node++) {
                long holders = nodes.holdersOf(node);
                if ((holders & version) != 0 && (holders & without) == 0) {
                    held++;
                }
            }
            return held;
        }

        int greatestRank(Nodes nodes, long versions) {
            int greatest = NONE;
            for (int node = 0; node < nodes.made; node++) {
                if ((nodes.holdersOf(node) & versions) == versions) {
                    greatest = Math.max(greatest, nodes.rankOf(node));
                }
            }
            return greatest;
        }

        /** Without a version just those nodes are lost that it alone of the pinned ones holds. */
        int heaviest(Nodes nodes, long pinned) {
            Arrays.fill(alone, 0);
            for (int node = 0; node < nodes.made; node++) {
                long holders = nodes.holdersOf(node) & pinned;
                int first = firstOf(holders);
                if (Long.bitCount(holders) == 1 && first < VERSIONS) {
                    alone[first]++;
                }
            }
            int heaviest = NONE;
            for (int v = 0; v < VERSIONS; v++) {
                if ((pinned & bit(v)) != 0 && (heaviest == NONE || alone[v] > alone[heaviest])) {
                    heaviest = v;
                }
            }
            return heaviest;
        }

        private void choose(long versions) {
            many = 0;
            for (int v = 0; v < VERSIONS && many < CHOSEN; v++) {
                if ((versions & bit(v)) != 0) {
                    chosen[many] = v;
                    many++;
                }
            }
            if (table.length < 1 << many) {
                table = new int[1 << many];
            }
            Arrays.fill(table, 0);
        }

        private int packed(long versions) {
            int bits = 0;
            for (int i = 0; i < many; i++) {
                bits |= (int) (versions >>> chosen[i] & 1) << i;
            }
            return bits;
        }

        private long unpacked(int bits) {
            long versions = 0;
            for (int i = 0; i < many; i++) {
                if ((bits >>> i & 1) != 0) {
                    versions |= bit(chosen[i]);
                }
            }
            return versions;
        }

        /** Behind it the table has, for some of the chosen ones, the nodes that none but these hold. */
        private void sumBelow() {
            for (int i = 0; i < many; i++) {
                for (int bits = 0; bits < 1 << many; bits++) {
                    if ((bits >>> i & 1) != 0) {
                        table[bits] += table[bits ^ 1 << i];
                    }
                }
            }
        }

        long fewestKeeping(Nodes nodes, long pinned) {
            choose(pinned);
            for (int node = 0; node < nodes.made; node++) {
                int bits = packed(nodes.holdersOf(node));
                if (bits != 0) {
                    table[bits]++;
                }
            }
            sumBelow();
            int all = (1 << many) - 1;
            int best = all;
            for (int bits = 0; bits < all; bits++) {
                if (table[all ^ bits] == 0 && Integer.bitCount(bits) < Integer.bitCount(best)) {
                    best = bits;
                }
            }
            return unpacked(best);
        }

        long fewestGiving(Nodes nodes, long versions, int n) {
            choose(versions);
            for (int node = 0; node < nodes.made; node++) {
                long holders = nodes.holdersOf(node);
                if ((holders & ~versions) == 0) {
                    table[packed(holders)]++;
                }
            }
            sumBelow();
            int best = NONE;
            for (int bits = 0; bits < 1 << many; bits++) {
                if (table[bits] >= n && (best == NONE || Integer.bitCount(bits) < Integer.bitCount(best))) {
                    best = bits;
                }
            }
            return best == NONE ? NONE : unpacked(best);
        }

        long versionsWith(Nodes nodes, int thing) {
            long having = 0;
            for (int node = 0; node < nodes.made; node++) {
                if (thingIn(nodes.weightOf(node)) == thing) {
                    having |= nodes.holdersOf(node);
                }
            }
            return having;
        }

        int leastKeyOf(Nodes nodes, int thing) {
            int least = NONE;
            for (int node = 0; node < nodes.made; node++) {
                int key = keyIn(nodes.weightOf(node));
                boolean has = thingIn(nodes.weightOf(node)) == thing && nodes.holdersOf(node) != 0;
                if (has && (least == NONE || key < least)) {
                    least = key;
                }
            }
            return least;
        }
    }
}
