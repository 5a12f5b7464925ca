import java.util.ArrayDeque;
import java.util.ArrayList;
import java.util.Collections;
import java.util.Comparator;
import java.util.HashMap;
import java.util.HashSet;
import java.util.IdentityHashMap;
import java.util.List;
import java.util.Map;
import java.util.Set;
import java.util.TreeMap;

/** The document's terms in the plainest form, with objects for nodes, to hold the class against. */
final class Model {
    static final class Node {
        final int number;
        final int thing;
        final int key;
        final List<Node> below = new ArrayList<>();

        Node(int number, int thing, int key) {
            this.number = number;
            this.thing = thing;
            this.key = key;
        }

        int rank() {
            return below.size();
        }
    }

    static final class Act {
        final String word;
        final int[] numbers;

        Act(String word, int... numbers) {
            this.word = word;
            this.numbers = numbers;
        }

        List<Integer> parents() {
            List<Integer> parents = new ArrayList<>();
            if (!word.equals("new")) {
                parents.add(numbers[0]);
            }
            if (word.equals("meld")) {
                parents.add(numbers[1]);
            }
            return parents;
        }
    }

    static final class Spot {
        final Node node;
        final int depth;
        final List<Node> path;

        Spot(Node node, List<Node> path) {
            this.node = node;
            this.depth = path.size() - 1;
            this.path = path;
        }
    }

    static final int MANY = 2000;

    final List<Act> acts;
    /** Trees by rank, the least first. */
    final List<TreeMap<Integer, Node>> versions = new ArrayList<>();
    final List<Integer> made = new ArrayList<>();
    final List<Integer> links = new ArrayList<>();
    final List<Integer> paid = new ArrayList<>();
    int nodes = 0;
    int things = 0;
    int linked = 0;

    Model(List<Act> acts) {
        this.acts = acts;
        versions.add(new TreeMap<>());
        for (Act act : acts) {
            int before = nodes;
            linked = 0;
            TreeMap<Integer, Node> heap = perform(act);
            if (heap == null) {
                break;
            }
            made.add(nodes - before);
            links.add(linked);
            int pays = linked + heap.size();
            for (int parent : act.parents()) {
                pays -= versions.get(parent).size();
            }
            paid.add(pays);
            versions.add(heap);
        }
    }

    int stop() {
        return versions.size() - 1;
    }

    static boolean lesser(Node a, Node b) {
        return a.key != b.key ? a.key < b.key : a.thing < b.thing;
    }

    Node link(Node first, Node second) {
        Node root = lesser(second, first) ? second : first;
        Node other = root == second && root != first ? first : second;
        Node node = new Node(nodes++, root.thing, root.key);
        node.below.add(other);
        node.below.addAll(root.below);
        linked++;
        return node;
    }

    TreeMap<Integer, Node> meld(TreeMap<Integer, Node> first, TreeMap<Integer, Node> second) {
        TreeMap<Integer, Node> heap = new TreeMap<>();
        Node carried = null;
        for (int rank = 0; rank < 10; rank++) {
            List<Node> there = new ArrayList<>();
            if (carried != null) {
                there.add(carried);
            }
            if (first.containsKey(rank)) {
                there.add(first.get(rank));
            }
            if (second.containsKey(rank)) {
                there.add(second.get(rank));
            }
            carried = null;
            if (there.size() == 1) {
                heap.put(rank, there.get(0));
            } else if (there.size() == 2) {
                carried = link(there.get(0), there.get(1));
            } else if (there.size() == 3) {
                heap.put(rank, there.get(0));
                carried = link(there.get(1), there.get(2));
            }
        }
        return heap;
    }

    static int size(TreeMap<Integer, Node> heap) {
        return walk(heap).size();
    }

    static List<Spot> walk(TreeMap<Integer, Node> heap) {
        List<Spot> spots = new ArrayList<>();
        for (Node root : heap.values()) {
            walk(root, new ArrayList<>(), spots);
        }
        return spots;
    }

    private static void walk(Node node, List<Node> above, List<Spot> spots) {
        List<Node> path = new ArrayList<>(above);
        path.add(node);
        spots.add(new Spot(node, path));
        for (Node child : node.below) {
            walk(child, path, spots);
        }
    }

    static List<Node> order(TreeMap<Integer, Node> heap) {
        List<Node> order = new ArrayList<>();
        for (Spot spot : walk(heap)) {
            order.add(spot.node);
        }
        order.sort(Comparator.<Node>comparingInt(n -> n.key).thenComparingInt(n -> n.thing));
        return order;
    }

    static Node least(TreeMap<Integer, Node> heap) {
        Node least = null;
        for (Node root : heap.values()) {
            if (least == null || lesser(root, least)) {
                least = root;
            }
        }
        return least;
    }

    TreeMap<Integer, Node> put(TreeMap<Integer, Node> heap, int key) {
        if (size(heap) + 1 > 63) {
            return null;
        }
        TreeMap<Integer, Node> single = new TreeMap<>();
        single.put(0, new Node(nodes++, things++, key));
        return meld(heap, single);
    }

    TreeMap<Integer, Node> less(TreeMap<Integer, Node> heap) {
        Node least = least(heap);
        if (least == null) {
            return null;
        }
        TreeMap<Integer, Node> rest = new TreeMap<>(heap);
        rest.remove(least.rank());
        TreeMap<Integer, Node> below = new TreeMap<>();
        for (Node child : least.below) {
            below.put(child.rank(), child);
        }
        return meld(rest, below);
    }

    TreeMap<Integer, Node> cut(TreeMap<Integer, Node> heap, int key) {
        TreeMap<Integer, Node> left = heap;
        while (!left.isEmpty() && least(left).key < key) {
            left = less(left);
        }
        return left;
    }

    TreeMap<Integer, Node> lower(TreeMap<Integer, Node> heap, int thing, int key) {
        for (Spot spot : walk(heap)) {
            if (spot.node.thing != thing || spot.node.key < key) {
                continue;
            }
            int deep = spot.depth;
            int[] rowThings = new int[deep + 1];
            int[] rowKeys = new int[deep + 1];
            for (int i = 0; i <= deep; i++) {
                rowThings[i] = spot.path.get(i).thing;
                rowKeys[i] = spot.path.get(i).key;
            }
            rowKeys[deep] = key;
            for (int i = deep; i > 0; i--) {
                boolean less = rowKeys[i] < rowKeys[i - 1]
                    || rowKeys[i] == rowKeys[i - 1] && rowThings[i] < rowThings[i - 1];
                if (!less) {
                    break;
                }
                int t = rowThings[i];
                rowThings[i] = rowThings[i - 1];
                rowThings[i - 1] = t;
                int k = rowKeys[i];
                rowKeys[i] = rowKeys[i - 1];
                rowKeys[i - 1] = k;
            }
            List<Node> anew = new ArrayList<>();
            for (int i = 0; i <= deep; i++) {
                anew.add(new Node(nodes++, rowThings[i], rowKeys[i]));
            }
            for (int i = 0; i <= deep; i++) {
                for (Node child : spot.path.get(i).below) {
                    boolean on = i < deep && child == spot.path.get(i + 1);
                    anew.get(i).below.add(on ? anew.get(i + 1) : child);
                }
            }
            TreeMap<Integer, Node> lowered = new TreeMap<>(heap);
            lowered.put(anew.get(0).rank(), anew.get(0));
            return lowered;
        }
        return null;
    }

    TreeMap<Integer, Node> perform(Act act) {
        if (act.word.equals("new")) {
            return new TreeMap<>();
        }
        for (int parent : act.parents()) {
            if (!has(parent)) {
                return null;
            }
        }
        TreeMap<Integer, Node> heap = versions.get(act.numbers[0]);
        switch (act.word) {
            case "put": return put(heap, act.numbers[1]);
            case "meld": {
                TreeMap<Integer, Node> other = versions.get(act.numbers[1]);
                return size(heap) + size(other) > 63 ? null : meld(heap, other);
            }
            case "less": return less(heap);
            case "lower": return lower(heap, act.numbers[1], act.numbers[2]);
            default: return cut(heap, act.numbers[1]);
        }
    }

    boolean has(int version) {
        return version >= 0 && version < versions.size();
    }

    boolean hasAll(long bits) {
        for (int i = 0; i < 64; i++) {
            if ((bits >>> i & 1) != 0 && !has(i)) {
                return false;
            }
        }
        return true;
    }

    static List<Integer> listed(long bits) {
        List<Integer> versions = new ArrayList<>();
        for (int i = 0; i < 64; i++) {
            if ((bits >>> i & 1) != 0) {
                versions.add(i);
            }
        }
        return versions;
    }

    Set<Node> holds(int version) {
        Set<Node> held = Collections.newSetFromMap(new IdentityHashMap<>());
        for (Spot spot : walk(versions.get(version))) {
            held.add(spot.node);
        }
        return held;
    }

    Set<Node> holdsAny(Iterable<Integer> some) {
        Set<Node> held = Collections.newSetFromMap(new IdentityHashMap<>());
        for (int version : some) {
            held.addAll(holds(version));
        }
        return held;
    }

    List<Integer> allVersions() {
        List<Integer> every = new ArrayList<>();
        for (int v = 0; v <= stop(); v++) {
            every.add(v);
        }
        return every;
    }

    int alone(int version) {
        List<Integer> others = allVersions();
        others.remove((Integer) version);
        Set<Node> held = holds(version);
        held.removeAll(holdsAny(others));
        return held.size();
    }

    int fresh(int version) {
        Set<Node> held = holds(version);
        if (version > 0) {
            held.removeAll(holdsAny(acts.get(version - 1).parents()));
        }
        return held.size();
    }

    Set<Node> both(int a, int b) {
        Set<Node> held = holds(a);
        held.retainAll(holds(b));
        return held;
    }

    int tallest(int a, int b) {
        int tallest = -1;
        for (Node node : both(a, b)) {
            tallest = Math.max(tallest, node.rank());
        }
        return tallest;
    }

    int heavy(long pinned) {
        int heavy = -1;
        int least = Integer.MAX_VALUE;
        for (int v : listed(pinned)) {
            int kept = holdsAny(listed(pinned & ~(1L << v))).size();
            if (kept < least) {
                least = kept;
                heavy = v;
            }
        }
        return heavy;
    }

    private List<Long> subsets(long bits) {
        List<Long> subsets = new ArrayList<>();
        long sub = bits;
        while (true) {
            subsets.add(sub);
            if (sub == 0) {
                break;
            }
            sub = sub - 1 & bits;
        }
        subsets.sort(Comparator.<Long>comparingInt(Long::bitCount).thenComparingLong(x -> x));
        return subsets;
    }

    long cover(long pinned) {
        int all = holdsAny(listed(pinned)).size();
        for (long sub : subsets(pinned)) {
            if (holdsAny(listed(sub)).size() == all) {
                return sub;
            }
        }
        return -1;
    }

    long forget(long some, int n) {
        for (long sub : subsets(some)) {
            List<Integer> others = allVersions();
            others.removeAll(listed(sub));
            if (nodes - holdsAny(others).size() >= n) {
                return sub;
            }
        }
        return -1;
    }

    Set<Integer> from(int version) {
        Set<Integer> from = new HashSet<>();
        ArrayDeque<Integer> open = new ArrayDeque<>();
        open.add(version);
        while (!open.isEmpty()) {
            int next = open.remove();
            if (from.add(next) && next > 0) {
                open.addAll(acts.get(next - 1).parents());
            }
        }
        return from;
    }

    boolean comes(int version, int from) {
        return from(version).contains(from);
    }

    int meet(int a, int b) {
        for (int v = stop(); v >= 0; v--) {
            if (comes(a, v) && comes(b, v)) {
                return v;
            }
        }
        return -1;
    }

    int away(int a, int b) {
        Set<Integer> front = new HashSet<>();
        front.add(b);
        for (int acts = 0; acts <= 40; acts++) {
            if (front.contains(a)) {
                return acts;
            }
            Set<Integer> back = new HashSet<>();
            for (int v : front) {
                if (v > 0) {
                    back.addAll(this.acts.get(v - 1).parents());
                }
            }
            front = back;
        }
        return -1;
    }

    /** The links of every way from a to b. */
    void ways(int a, int b, int soFar, List<Integer> found) {
        if (found.size() >= MANY || !comes(b, a)) {
            return;
        }
        if (a == b) {
            found.add(soFar);
        } else if (b > a) {
            for (int parent : acts.get(b - 1).parents()) {
                ways(a, parent, soFar + links.get(b - 1), found);
            }
        }
    }

    static List<String> texts(Iterable<Node> nodes) {
        List<String> texts = new ArrayList<>();
        for (Node node : nodes) {
            texts.add(node.thing + ":" + node.key);
        }
        return texts;
    }

    boolean alike(int a, int b, boolean same) {
        if (!same) {
            return texts(order(versions.get(a))).equals(texts(order(versions.get(b))));
        }
        List<Node> first = new ArrayList<>();
        List<Node> second = new ArrayList<>();
        for (Spot spot : walk(versions.get(a))) {
            first.add(spot.node);
        }
        for (Spot spot : walk(versions.get(b))) {
            second.add(spot.node);
        }
        return texts(first).equals(texts(second));
    }

    int twice(int version) {
        Map<Integer, Integer> times = new HashMap<>();
        for (Spot spot : walk(versions.get(version))) {
            times.merge(spot.node.thing, 1, Integer::sum);
        }
        int many = 0;
        for (int time : times.values()) {
            if (time > 1) {
                many++;
            }
        }
        return many;
    }

    /** By search in breadth: of small heaps with lowering to every key that could matter. */
    int differ(int a, int b) {
        if (size(versions.get(a)) > 6 || size(versions.get(b)) > 6 || twice(a) > 0 || twice(b) > 0) {
            return -1;
        }
        TreeMap<Integer, Integer> goal = new TreeMap<>();
        for (Node node : order(versions.get(b))) {
            goal.put(node.thing, node.key);
        }
        TreeMap<Integer, Integer> start = new TreeMap<>();
        for (Node node : order(versions.get(a))) {
            start.put(node.thing, node.key);
        }
        Set<String> seen = new HashSet<>();
        boolean every = start.size() <= 4 && goal.size() <= 4;
        ArrayDeque<TreeMap<Integer, Integer>> row = new ArrayDeque<>();
        ArrayDeque<Integer> far = new ArrayDeque<>();
        seen.add(start.toString());
        row.add(start);
        far.add(0);
        while (!row.isEmpty()) {
            TreeMap<Integer, Integer> state = row.remove();
            int acts = far.remove();
            if (state.equals(goal)) {
                return acts;
            }
            for (TreeMap<Integer, Integer> next : nexts(state, goal, every)) {
                if (seen.add(next.toString())) {
                    row.add(next);
                    far.add(acts + 1);
                }
            }
        }
        return -1;
    }

    private static List<TreeMap<Integer, Integer>> nexts(
        TreeMap<Integer, Integer> state, TreeMap<Integer, Integer> goal, boolean every) {
        List<TreeMap<Integer, Integer>> nexts = new ArrayList<>();
        for (int thing : goal.keySet()) {
            if (!state.containsKey(thing)) {
                TreeMap<Integer, Integer> next = new TreeMap<>(state);
                next.put(thing, goal.get(thing));
                nexts.add(next);
            }
        }
        int least = -1;
        for (int thing : state.keySet()) {
            if (least < 0 || state.get(thing) < state.get(least)) {
                least = thing;
            }
        }
        if (least >= 0) {
            TreeMap<Integer, Integer> next = new TreeMap<>(state);
            next.remove(least);
            nexts.add(next);
        }
        for (int thing : state.keySet()) {
            Set<Integer> keys = new HashSet<>();
            keys.add(-1);
            keys.add(goal.getOrDefault(thing, -1));
            if (every) {
                keys.addAll(goal.values());
            }
            for (int key : keys) {
                if (key < state.get(thing)) {
                    TreeMap<Integer, Integer> next = new TreeMap<>(state);
                    next.put(thing, key);
                    nexts.add(next);
                }
            }
        }
        return nexts;
    }

    int would(int version, int act, int a, int b, boolean ofLinks) {
        if (act < 1 || act > 5) {
            return -1;
        }
        int key = act == 4 ? b : a;
        if ((act == 1 || act == 4 || act == 5) && (key < 0 || key > 99)) {
            return -1;
        }
        int nodesNow = nodes;
        int thingsNow = things;
        linked = 0;
        String word = new String[] {"new", "put", "meld", "less", "lower", "cut"}[act];
        TreeMap<Integer, Node> heap = perform(new Act(word, version, a, b));
        int answer = ofLinks ? linked : nodes - nodesNow;
        nodes = nodesNow;
        things = thingsNow;
        return heap == null ? -1 : answer;
    }

    /** The fewest nodes, then the order. */
    List<Integer> fold(long bits) {
        List<Integer> some = listed(bits);
        int together = 0;
        for (int v : some) {
            together += has(v) ? size(versions.get(v)) : 1000;
        }
        if (some.size() < 2 || some.size() > 5 || together > 63) {
            return null;
        }
        List<List<Integer>> orders = new ArrayList<>();
        permute(some, new ArrayList<>(), orders);
        List<Integer> best = null;
        for (List<Integer> order : orders) {
            int nodesNow = nodes;
            TreeMap<Integer, Node> heap = versions.get(order.get(0));
            for (int i = 1; i < order.size(); i++) {
                heap = meld(heap, versions.get(order.get(i)));
            }
            int before = nodes;
            less(heap);
            int makes = nodes - before;
            nodes = nodesNow;
            if (best == null || makes < best.get(0)) {
                best = new ArrayList<>();
                best.add(makes);
                best.addAll(order);
            }
        }
        return best;
    }

    private static void permute(List<Integer> some, List<Integer> sofar, List<List<Integer>> orders) {
        if (sofar.size() == some.size()) {
            orders.add(new ArrayList<>(sofar));
        }
        for (int v : some) {
            if (!sofar.contains(v)) {
                sofar.add(v);
                permute(some, sofar, orders);
                sofar.remove(sofar.size() - 1);
            }
        }
    }

    int[] dearest() {
        int[] best = null;
        int most = -1;
        for (int a = 0; a <= stop(); a++) {
            for (int b = a; b <= stop(); b++) {
                if (size(versions.get(a)) + size(versions.get(b)) <= 63) {
                    int makes = would(a, 2, b, 0, true);
                    if (makes > most) {
                        most = makes;
                        best = new int[] {a, b};
                    }
                }
            }
        }
        return best;
    }

    int[] drawn(int version, int seed, int k) {
        int nodesNow = nodes;
        int thingsNow = things;
        linked = 0;
        int x = seed;
        TreeMap<Integer, Node> heap = versions.get(version);
        for (int i = 0; i < k; i++) {
            x = x * 1103515245 + 12345;
            if ((x >>> 16) % 3 == 0 && !heap.isEmpty()) {
                heap = less(heap);
            } else if (size(heap) < 63) {
                x = x * 1103515245 + 12345;
                heap = put(heap, (x >>> 16) % 100);
            }
        }
        int[] answers = {size(heap), linked, heap.isEmpty() ? -1 : least(heap).key, nodes - nodesNow};
        nodes = nodesNow;
        things = thingsNow;
        return answers;
    }

    /** How many were ever on the list, for each k. */
    List<Integer> looked(int version) {
        List<Spot> walk = walk(versions.get(version));
        boolean[] list = new boolean[walk.size()];
        int ever = 0;
        for (int i = 0; i < walk.size(); i++) {
            list[i] = walk.get(i).depth == 0;
            ever += list[i] ? 1 : 0;
        }
        List<Integer> looked = new ArrayList<>();
        looked.add(ever);
        for (int k = 0; k < walk.size(); k++) {
            int least = -1;
            for (int i = 0; i < walk.size(); i++) {
                if (list[i] && (least < 0 || lesser(walk.get(i).node, walk.get(least).node))) {
                    least = i;
                }
            }
            list[least] = false;
            int depth = walk.get(least).depth;
            for (int i = least + 1; i < walk.size() && walk.get(i).depth > depth; i++) {
                if (walk.get(i).depth == depth + 1) {
                    list[i] = true;
                    ever++;
                }
            }
            looked.add(ever);
        }
        return looked;
    }
}
