import java.util.ArrayList;
import java.util.List;
import java.util.Random;

/** Random rows of acts, each answer held against the plain model. */
public final class ModelTest {
    private static final String[] WORDS = {"new", "put", "meld", "less", "lower", "cut"};

    public static void main(String[] args) {
        int runs = args.length > 0 ? Integer.parseInt(args[0]) : 150;
        String before = "new;";
        for (int run = 0; run < runs; run++) {
            Random random = new Random(run);
            List<Model.Act> acts = randomActs(random, run % 5);
            PastHeaps heaps = new PastHeaps();
            StringBuilder text = new StringBuilder();
            for (Model.Act act : acts) {
                text.append(act.word);
                for (int number : act.numbers) {
                    text.append(' ').append(number);
                }
                text.append(';');
            }
            if (text.length() > 600) {
                continue;
            }
            tellAfter(heaps, before, text.toString(), run % 3);
            before = text.toString();
            new ModelTest(heaps, new Model(acts), random, "run " + run + " ").askAll();
        }
        Due.finish("ModelTest");
    }

    /** How: 0 as the first text, 1 in the place of another one, 2 from an image, behind another one. */
    private static void tellAfter(PastHeaps heaps, String before, String text, int how) {
        if (how == 1) {
            Due.is("text before", Due.tell(heaps, -1, before), 0);
        }
        Due.is("text", Due.tell(heaps, how == 1 ? 0 : -1, text), 0);
        if (how == 2) {
            Due.is("image", heaps.image(1), true);
            Due.is("text behind", Due.tell(heaps, 0, before), 0);
            Due.is("again", heaps.again(1), true);
        }
    }

    /** Kinds: 0 of all, 1 great heaps, 2 small ones, 3 many that can't be, 4 meldings of like things. */
    private static List<Model.Act> randomActs(Random random, int kind) {
        List<Model.Act> acts = new ArrayList<>();
        int many = 1 + random.nextInt(40);
        int keys = random.nextBoolean() ? 100 : 4;
        for (int k = 0; k < many; k++) {
            for (int tries = 0; tries < 8; tries++) {
                Model.Act act = randomAct(random, kind, k, keys);
                List<Model.Act> longer = new ArrayList<>(acts);
                longer.add(act);
                boolean last = tries == 7 || random.nextInt(100) == 0;
                if (kind == 3 || last || new Model(longer).stop() == k + 1) {
                    acts = longer;
                    break;
                }
            }
        }
        return acts;
    }

    private static Model.Act randomAct(Random random, int kind, int k, int keys) {
        int latest = Math.max(0, k - (random.nextInt(3) == 0 ? random.nextInt(k + 1) : random.nextInt(2)));
        int other = random.nextInt(k + 1);
        int key = random.nextInt(keys);
        int draw = random.nextInt(20);
        if (kind == 3 && random.nextInt(12) == 0) {
            latest = random.nextInt(41);
        }
        if (kind == 1 || kind == 4) {
            draw = draw < 8 ? 10 + random.nextInt(5) : draw;
        }
        if (kind == 2) {
            other = 0;
        }
        if (draw == 0) {
            return new Model.Act("new");
        } else if (draw < 10) {
            return new Model.Act("put", latest, key);
        } else if (draw < 14) {
            return new Model.Act("meld", latest, kind == 4 && random.nextBoolean() ? latest : other);
        } else if (draw < 16) {
            return new Model.Act("less", latest);
        } else if (draw < 19) {
            return new Model.Act("lower", latest, random.nextInt(Math.min(40, k + 2)), key);
        }
        return new Model.Act("cut", latest, random.nextInt(1 + keys / 2));
    }

    private final PastHeaps heaps;
    private final Model model;
    private final Random random;
    private final String run;

    private ModelTest(PastHeaps heaps, Model model, Random random, String run) {
        this.heaps = heaps;
        this.model = model;
        this.random = random;
        this.run = run;
    }

    private int version() {
        return random.nextInt(model.stop() + 2);
    }

    private long some(int most) {
        long bits = 0;
        int many = random.nextInt(most + 1);
        for (int i = 0; i < many; i++) {
            bits |= 1L << random.nextInt(model.stop() + (random.nextInt(30) == 0 ? 2 : 1));
        }
        return bits;
    }

    private void askAll() {
        Due.is(run + "stop", heaps.stop(0), model.stop());
        Due.is(run + "all", heaps.all(0, false), model.nodes);
        Due.is(run + "all things", heaps.all(0, true), model.things);
        askActs();
        for (int v = -1; v <= model.stop() + 1; v++) {
            askVersion(v);
        }
        for (int i = 0; i < 60; i++) {
            askPair(version(), version());
        }
        for (int i = 0; i < 25; i++) {
            askSome(some(12));
            askSome(some(20));
        }
        for (int i = 0; i < 15; i++) {
            askFold(some(5));
            askWould();
            askDrawn();
        }
        int[] dearest = model.dearest();
        Due.is(run + "dearest", heaps.dearest(0, false), dearest[0]);
        Due.is(run + "dearest second", heaps.dearest(0, true), dearest[1]);
        for (int thing = -1; thing <= model.things; thing++) {
            askThing(thing);
        }
        Due.is(run + "all behind", heaps.all(0, false), model.nodes);
        Due.is(run + "all things behind", heaps.all(0, true), model.things);
    }

    private void askActs() {
        Due.is(run + "acts", heaps.act(0, -1, 0), model.acts.size());
        for (int k = 0; k < model.acts.size(); k++) {
            Model.Act act = model.acts.get(k);
            Due.is(run + "act", WORDS[heaps.act(0, k, 0)].equals(act.word), true);
            for (int i = 0; i < 3; i++) {
                Due.is(run + "act number", heaps.act(0, k, i + 1), i < act.numbers.length ? act.numbers[i] : -1);
            }
            boolean was = k < model.stop();
            Due.is(run + "made " + k, heaps.did(0, k, 0), was ? model.made.get(k) : -100000);
            Due.is(run + "links " + k, heaps.did(0, k, 1), was ? model.links.get(k) : -100000);
            Due.is(run + "paid " + k, heaps.did(0, k, 2), was ? model.paid.get(k) : -100000);
        }
        for (int c = -8; c < 8; c++) {
            int over = -1;
            for (int k = model.stop() - 1; k >= 0; k--) {
                over = model.paid.get(k) > c ? k : over;
            }
            Due.is(run + "over " + c, heaps.over(0, c), over);
        }
    }

    private void askVersion(int v) {
        String of = run + "version " + v + " ";
        if (!model.has(v)) {
            Due.is(of, heaps.version(0, v, 0), -2);
            Due.is(of, heaps.order(0, v, 0, false), -1);
            Due.is(of, heaps.walk(0, v, 0, 0), -1);
            Due.is(of, heaps.looked(0, v, 0, false), -1);
            Due.is(of, heaps.twice(0, v, false), -1);
            Due.is(of, heaps.below(0, v, 5), -1);
            return;
        }
        List<Model.Spot> walk = Model.walk(model.versions.get(v));
        List<Model.Node> order = Model.order(model.versions.get(v));
        int size = walk.size();
        Due.is(of + "size", heaps.version(0, v, 0), size);
        Due.is(of + "credit", heaps.version(0, v, 1), model.versions.get(v).size());
        Due.is(of + "holds", heaps.version(0, v, 2), model.holds(v).size());
        Due.is(of + "alone", heaps.version(0, v, 3), model.alone(v));
        Due.is(of + "middle", heaps.version(0, v, 4), size == 0 ? -1 : order.get(size / 2).thing);
        int gap = 0;
        for (int i = 0; i + 1 < size; i++) {
            gap = Math.max(gap, order.get(i + 1).key - order.get(i).key);
        }
        Due.is(of + "gap", heaps.version(0, v, 5), gap);
        Due.is(of + "rank", heaps.version(0, v, 6), size == 0 ? -1 : model.versions.get(v).lastKey());
        int sum = 0;
        List<Integer> looked = model.looked(v);
        for (int k = 0; k <= size; k++) {
            Due.is(of + "looked " + k, heaps.looked(0, v, k, false), looked.get(k));
            Due.is(of + "sum " + k, heaps.looked(0, v, k, true), sum);
            if (k < size) {
                askPlace(v, k, walk.get(k), order.get(k));
                sum += order.get(k).key;
            }
        }
        Due.is(of + "looked", heaps.looked(0, v, size + 1, false), -1);
        Due.is(of + "order", heaps.order(0, v, size, false), -1);
        Due.is(of + "walk", heaps.walk(0, v, size, 0), -1);
        for (int rank = -1; rank < 8; rank++) {
            Model.Node root = model.versions.get(v).get(rank);
            Due.is(of + "root", heaps.root(0, v, rank), root == null ? -1 : root.number);
        }
        for (int key = -1; key <= 101; key += 1 + random.nextInt(20)) {
            int below = 0;
            for (Model.Node node : order) {
                below += node.key < key ? 1 : 0;
            }
            Due.is(of + "below", heaps.below(0, v, key), below);
        }
        Due.is(of + "twice", heaps.twice(0, v, false), model.twice(v));
        Due.is(of + "fresh", heaps.twice(0, v, true), model.fresh(v));
        for (int thing = -1; thing <= model.things; thing++) {
            int depth = -1;
            for (Model.Spot spot : walk) {
                if (spot.node.thing == thing && (depth < 0 || spot.depth < depth)) {
                    depth = spot.depth;
                }
            }
            Due.is(of + "depth " + thing, heaps.depth(0, v, thing), depth);
        }
    }

    private void askPlace(int v, int k, Model.Spot spot, Model.Node ordered) {
        String of = run + "version " + v + " place " + k + " ";
        Due.is(of + "order", heaps.order(0, v, k, false), ordered.thing);
        Due.is(of + "order key", heaps.order(0, v, k, true), ordered.key);
        Due.is(of + "thing", heaps.walk(0, v, k, 0), spot.node.thing);
        Due.is(of + "key", heaps.walk(0, v, k, 1), spot.node.key);
        Due.is(of + "rank", heaps.walk(0, v, k, 2), spot.node.rank());
        Due.is(of + "number", heaps.walk(0, v, k, 3), spot.node.number);
        Due.is(of + "depth", heaps.walk(0, v, k, 4), spot.depth);
    }

    private void askPair(int a, int b) {
        String of = run + "pair " + a + " " + b + " ";
        boolean both = model.has(a) && model.has(b);
        Due.is(of + "comes", heaps.comes(0, a, b), both && model.comes(a, b));
        Due.is(of + "meet", heaps.meet(0, a, b, false), both ? model.meet(a, b) : -1);
        Due.is(of + "shared", heaps.shared(0, a, b), both ? model.both(a, b).size() : -1);
        Due.is(of + "tallest", heaps.tallest(0, a, b), both ? model.tallest(a, b) : -1);
        Due.is(of + "alike", heaps.alike(0, a, b, false), both && model.alike(a, b, false));
        Due.is(of + "same", heaps.alike(0, a, b, true), both && model.alike(a, b, true));
        Due.is(of + "differ", heaps.differ(0, a, b), both ? model.differ(a, b) : -1);
        if (!both) {
            Due.is(of + "away", heaps.meet(0, a, b, true), -1);
            Due.is(of + "way", heaps.way(0, a, b, false), -1);
            Due.is(of + "ways", heaps.way(0, a, b, true), -1);
            return;
        }
        List<Integer> ways = new ArrayList<>();
        model.ways(a, b, 0, ways);
        if (ways.size() < Model.MANY) {
            int most = -1;
            for (int way : ways) {
                most = Math.max(most, way);
            }
            Due.is(of + "away", heaps.meet(0, a, b, true), model.away(a, b));
            Due.is(of + "way", heaps.way(0, a, b, false), most);
            Due.is(of + "ways", heaps.way(0, a, b, true), ways.isEmpty() ? -1 : ways.size());
        }
    }

    private void askSome(long bits) {
        String of = run + "some " + Long.toBinaryString(bits) + " ";
        boolean all = model.hasAll(bits);
        Due.is(of + "kept", heaps.kept(0, bits, false), all ? model.holdsAny(Model.listed(bits)).size() : -1);
        Due.is(of + "back", heaps.kept(0, bits, true),
            all ? model.nodes - model.holdsAny(Model.listed(bits)).size() : -1);
        Due.is(of + "heavy", heaps.heavy(0, bits), all ? model.heavy(bits) : -1);
        if (Long.bitCount(bits) > 8 && random.nextInt(10) > 0) {
            return;
        }
        boolean may = all && Long.bitCount(bits) <= 12;
        Due.is(of + "cover", heaps.cover(0, bits), may ? model.cover(bits) : -1);
        int n = random.nextInt(12);
        Due.is(of + "forget " + n, heaps.forget(0, bits, n), may ? model.forget(bits, n) : -1);
    }

    private void askFold(long bits) {
        List<Integer> fold = model.fold(bits);
        String of = run + "fold " + Long.toBinaryString(bits) + " ";
        Due.is(of, heaps.fold(0, bits, 0), fold == null ? -1 : fold.get(0));
        for (int i = 0; i < 6; i++) {
            boolean is = fold != null && i + 1 < fold.size();
            Due.is(of + i, heaps.fold(0, bits, 10 + i), is ? fold.get(i + 1) : -1);
        }
    }

    private void askWould() {
        int v = version();
        for (int act = 0; act <= 6; act++) {
            int a = act == 2 ? version() : random.nextInt(act == 4 ? model.things + 1 : 110) - 1;
            int b = random.nextInt(110) - 1;
            String of = run + "would " + v + " " + act + " " + a + " " + b + " ";
            Due.is(of, heaps.would(0, v, act, a, b, false), model.would(v, act, a, b, false));
            Due.is(of + "links", heaps.would(0, v, act, a, b, true), model.would(v, act, a, b, true));
        }
    }

    private void askDrawn() {
        int v = version();
        int seed = random.nextInt();
        int k = random.nextInt(32);
        boolean may = model.has(v) && k >= 1 && k <= 30;
        int[] due = may ? model.drawn(v, seed, k) : new int[] {-2, -2, -2, -2};
        for (int what = 0; what < 4; what++) {
            Due.is(run + "drawn " + v + " " + seed + " " + k + " " + what, heaps.drawn(0, v, seed, k, what), due[what]);
        }
        Due.is(run + "drawn", heaps.drawn(0, v, seed, k, 4), -2);
    }

    private void askThing(int thing) {
        int first = -1;
        int last = -1;
        int lowest = -1;
        for (int v = 0; v <= model.stop(); v++) {
            for (Model.Spot spot : Model.walk(model.versions.get(v))) {
                if (spot.node.thing == thing) {
                    first = first < 0 ? v : first;
                    last = v;
                    lowest = lowest < 0 || spot.node.key < lowest ? spot.node.key : lowest;
                }
            }
        }
        Due.is(run + "age " + thing, heaps.age(0, thing, false), first);
        Due.is(run + "age last " + thing, heaps.age(0, thing, true), last);
        Due.is(run + "lowest " + thing, heaps.lowest(0, thing), lowest);
    }
}
