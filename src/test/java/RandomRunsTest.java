import java.util.ArrayList;
import java.util.List;
import java.util.Random;

/** Random runs of calls: each answer is compared with that of a second, plain writing of the document. */
public final class RandomRunsTest {
    private static final int RUNS = 3000;
    private static final int MOST_CALLS = 512;
    private static final int LONGEST_STEP = 30;
    private static final int[] ODD = {-1, 0, 1, 2, 3, 8, 5002, 5003, 10006, 10007,
        Integer.MIN_VALUE, Integer.MAX_VALUE};
    private static final int[] BASES = {4, 9, 16, 25, 3000 * 3000 % 10007};

    public static void main(String[] args) {
        for (int run = 0; run < RUNS; run++) {
            Run r = new Run(run);
            boolean right = r.grow(1 + run % 8);
            while (right && r.calls.size() < MOST_CALLS - LONGEST_STEP) {
                right = r.step();
            }
            while (right && r.calls.size() < MOST_CALLS) {
                right = r.useAny();
            }
            if (!right) {
                System.out.println("run " + run + ": " + String.join("; ", r.calls));
                System.exit(1);
            }
        }
        Run.dueSomeOfEach();
        System.out.println(RUNS + " runs answered as due");
    }

    /** One object and its model, given the same calls. */
    private static final class Run {
        private static final int[] GOOD = new int[20];

        private final Random random;
        private final Desk desk = new RealDesk();
        private final Model model = new Model();
        private final List<String> calls = new ArrayList<>();

        Run(int seed) {
            random = new Random(seed);
        }

        /** A test that never gets a good answer from some method would say little of it. */
        static void dueSomeOfEach() {
            for (int i = 0; i < GOOD.length; i++) {
                if (GOOD[i] < 1000) {
                    System.out.println("method " + i + " answered well only " + GOOD[i] + " times");
                    System.exit(1);
                }
            }
        }

        private int pick(int usual) {
            return random.nextInt(12) == 0 ? ODD[random.nextInt(ODD.length)] : usual;
        }

        private int base() {
            return pick(BASES[random.nextInt(BASES.length)]);
        }

        private int leafNumber() {
            return pick(random.nextInt(model.leaves.isEmpty() ? 8 : model.leaves.size()));
        }

        private int exponent() {
            return pick(random.nextInt(5003));
        }

        /** One call, or a few that belong together and would seldom meet by chance. */
        boolean step() {
            int kind = random.nextInt(200);
            if (kind == 0) {
                return grow(1 + random.nextInt(8));
            }
            if (kind < 20) {
                return build(random.nextInt(6));
            }
            if (kind < 40) {
                return use(9) && use(10) && use(18) && use(10) && use(19);
            }
            return useAny();
        }

        boolean useAny() {
            return use(6 + random.nextInt(14));
        }

        /** A tree of about so many leaves, joined in random order, if the stack was empty. */
        boolean grow(int leaves) {
            boolean right = true;
            for (int i = 0; right && i < leaves; i++) {
                right = build(1 + random.nextInt(2)) && (random.nextBoolean() || build(3));
            }
            for (int i = 0; right && i < 6 && model.stack.size() > 1; i++) {
                right = build(3);
            }
            return right && build(5);
        }

        private boolean build(int kind) {
            int b = base();
            int d = base();
            int x = random.nextInt(8);
            boolean all = random.nextBoolean();
            int y = pick(Model.pow(b, x));
            int w = pick(Model.pow(d, random.nextInt(4) == 0 ? 1 : x));
            switch (kind) {
                case 0:
                    return same(0, "power(" + b + ", " + x + ")", desk.power(b, x), model.power(b, x));
                case 1:
                    return same(1, "leaf(" + b + ", " + y + ")", desk.leaf(b, y), model.leaf(b, y));
                case 2:
                    return same(2, "equal(" + b + ", " + y + ", " + d + ", " + w + ")",
                        desk.equal(b, y, d, w), model.equal(b, y, d, w));
                case 3:
                    return same(3, "join(" + all + ")", desk.join(all), model.join(all));
                case 4:
                    if (random.nextInt(3) != 0) {
                        return same(3, "join(" + all + ")", desk.join(all), model.join(all));
                    }
                    return same(4, "discard()", desk.discard(), model.discard());
                default:
                    return same(5, "accept()", desk.accept(), model.accept());
            }
        }

        private boolean use(int kind) {
            int leaf = leafNumber();
            int seed = random.nextBoolean() ? random.nextInt(3) : pick(random.nextInt());
            int c = exponent();
            int what = pick(random.nextInt(4));
            switch (kind) {
                case 6:
                    int x = pick(random.nextInt(3) == 0 ? random.nextInt(8) : model.smallWitness(leaf));
                    return same(6, "tell(" + leaf + ", " + x + ")", desk.tell(leaf, x), model.tell(leaf, x));
                case 7:
                    return same(7, "witness(" + leaf + ")", desk.witness(leaf), model.witness(leaf));
                case 8:
                    return same(8, "known()", desk.known(), model.known());
                case 9:
                    return same(9, "commit(" + seed + ")", desk.commit(seed), model.commit(seed));
                case 10:
                    return same(10, "respond(" + c + ")", desk.respond(c), model.respond(c));
                case 11:
                    return same(11, "simulate(" + c + ", " + seed + ")", desk.simulate(c, seed),
                        model.simulate(c, seed));
                case 12:
                    return same(12, "prove(" + seed + ")", desk.prove(seed), model.prove(seed));
                case 13:
                    return same(13, "hash()", desk.hash(), model.hash());
                case 14:
                    return same(14, "verify()", desk.verify(), model.verify());
                case 15:
                    return same(15, "challenge()", desk.challenge(), model.challenge());
                case 16:
                    return same(16, "part(" + leaf + ", " + what + ")", desk.part(leaf, what),
                        model.part(leaf, what));
                case 17:
                    int v = changed(leaf, what);
                    return same(17, "change(" + leaf + ", " + what + ", " + v + ")",
                        desk.change(leaf, what, v), model.change(leaf, what, v));
                case 18:
                    return same(18, "save()", desk.save(), model.save());
                default:
                    return same(19, "extract()", desk.extract(), model.extract());
            }
        }

        /** Mostly the value that is there, so that transcripts stay accepted now and then. */
        private int changed(int leaf, int what) {
            int now = model.part(leaf, what);
            return random.nextInt(4) != 0 && now >= 0 ? now : pick(random.nextInt(what < 2 ? 10007 : 5003));
        }

        private boolean same(int kind, String call, boolean got, boolean want) {
            return same(kind, call, got ? 0 : -9, want ? 0 : -9);
        }

        private boolean same(int kind, String call, int got, int want) {
            if (got >= 0) {
                GOOD[kind]++;
            }
            calls.add(call + " answered " + got + ", due is " + want);
            return got == want;
        }
    }
}
