import java.math.BigInteger;
import java.util.ArrayList;
import java.util.List;
import java.util.Random;

/** Random runs of calls: each answer is compared with that of a second, plain writing of the document. */
public final class RandomRunsTest {
    private static final int RUNS = 3000;
    private static final int MOST_CALLS = 512;
    private static final int LONGEST_STEP = 30;
    private static final int[] ODD = {-1, 0, 1, 2, 3, 8, 5002, 5003, 10006, 10007,
        Integer.MIN_VALUE, Integer.MAX_VALUE};
    private static final int[] BASES = {4, 9, 16, 25, 3000 * 3000 % 10007};

    public static void main(String[] args) {
        for (int run = 0; run < RUNS; run++) {
            Run r = new Run(run);
            boolean right = r.grow(1 + run % 8);
            while (right && r.calls.size() < MOST_CALLS - LONGEST_STEP) {
                right = r.step();
            }
            if (!right) {
                System.out.println("run " + run + ": " + String.join("; ", r.calls));
                System.exit(1);
            }
        }
        Run.dueSomeOfEach();
        System.out.println(RUNS + " runs answered as due");
    }

    /** One object and its model, given the same calls. */
    private static final class Run {
        private static final int[] GOOD = new int[20];

        private final Random random;
        private final SigmaDesk desk = new SigmaDesk();
        private final Model model = new Model();
        private final List<String> calls = new ArrayList<>();

        Run(int seed) {
            random = new Random(seed);
        }

        /** A test that never gets a good answer from some method would say little of it. */
        static void dueSomeOfEach() {
            for (int i = 0; i < GOOD.length; i++) {
                if (GOOD[i] < 1000) {
                    System.out.println("method " + i + " answered well only " + GOOD[i] + " times");
                    System.exit(1);
                }
            }
        }

        private int pick(int usual) {
            return random.nextInt(12) == 0 ? ODD[random.nextInt(ODD.length)] : usual;
        }

        private int base() {
            return pick(BASES[random.nextInt(BASES.length)]);
        }

        private int leafNumber() {
            return pick(random.nextInt(model.leaves.isEmpty() ? 8 : model.leaves.size()));
        }

        private int exponent() {
            return pick(random.nextInt(5003));
        }

        /** One call, or a few that belong together and would seldom meet by chance. */
        boolean step() {
            int kind = random.nextInt(200);
            if (kind == 0) {
                return grow(1 + random.nextInt(8));
            }
            if (kind < 20) {
                return build(random.nextInt(6));
            }
            if (kind < 40) {
                return use(9) && use(10) && use(18) && use(10) && use(19);
            }
            return use(6 + random.nextInt(14));
        }

        /** A tree of about so many leaves, joined in random order, if the stack was empty. */
        boolean grow(int leaves) {
            boolean right = true;
            for (int i = 0; right && i < leaves; i++) {
                right = build(1 + random.nextInt(2)) && (random.nextBoolean() || build(3));
            }
            for (int i = 0; right && i < 6 && model.stack.size() > 1; i++) {
                right = build(3);
            }
            return right && build(5);
        }

        private boolean build(int kind) {
            int b = base();
            int d = base();
            int x = random.nextInt(8);
            boolean all = random.nextBoolean();
            int y = pick(Model.pow(b, x));
            int w = pick(Model.pow(d, random.nextInt(4) == 0 ? 1 : x));
            switch (kind) {
                case 0:
                    return same(0, "power(" + b + ", " + x + ")", desk.power(b, x), model.power(b, x));
                case 1:
                    return same(1, "leaf(" + b + ", " + y + ")", desk.leaf(b, y), model.leaf(b, y));
                case 2:
                    return same(2, "equal(" + b + ", " + y + ", " + d + ", " + w + ")",
                        desk.equal(b, y, d, w), model.equal(b, y, d, w));
                case 3:
                    return same(3, "join(" + all + ")", desk.join(all), model.join(all));
                case 4:
                    if (random.nextInt(3) != 0) {
                        return same(3, "join(" + all + ")", desk.join(all), model.join(all));
                    }
                    return same(4, "discard()", desk.discard(), model.discard());
                default:
                    return same(5, "accept()", desk.accept(), model.accept());
            }
        }

        private boolean use(int kind) {
            int leaf = leafNumber();
            int seed = random.nextBoolean() ? random.nextInt(3) : pick(random.nextInt());
            int c = exponent();
            int what = pick(random.nextInt(4));
            switch (kind) {
                case 6:
                    int x = pick(random.nextInt(3) == 0 ? random.nextInt(8) : model.smallWitness(leaf));
                    return same(6, "tell(" + leaf + ", " + x + ")", desk.tell(leaf, x), model.tell(leaf, x));
                case 7:
                    return same(7, "witness(" + leaf + ")", desk.witness(leaf), model.witness(leaf));
                case 8:
                    return same(8, "known()", desk.known(), model.known());
                case 9:
                    return same(9, "commit(" + seed + ")", desk.commit(seed), model.commit(seed));
                case 10:
                    return same(10, "respond(" + c + ")", desk.respond(c), model.respond(c));
                case 11:
                    return same(11, "simulate(" + c + ", " + seed + ")", desk.simulate(c, seed),
                        model.simulate(c, seed));
                case 12:
                    return same(12, "prove(" + seed + ")", desk.prove(seed), model.prove(seed));
                case 13:
                    return same(13, "hash()", desk.hash(), model.hash());
                case 14:
                    return same(14, "verify()", desk.verify(), model.verify());
                case 15:
                    return same(15, "challenge()", desk.challenge(), model.challenge());
                case 16:
                    return same(16, "part(" + leaf + ", " + what + ")", desk.part(leaf, what),
                        model.part(leaf, what));
                case 17:
                    int v = changed(leaf, what);
                    return same(17, "change(" + leaf + ", " + what + ", " + v + ")",
                        desk.change(leaf, what, v), model.change(leaf, what, v));
                case 18:
                    return same(18, "save()", desk.save(), model.save());
                default:
                    return same(19, "extract()", desk.extract(), model.extract());
            }
        }

        /** Mostly the value that is there, so that transcripts stay accepted now and then. */
        private int changed(int leaf, int what) {
            int now = model.part(leaf, what);
            return random.nextInt(4) != 0 && now >= 0 ? now : pick(random.nextInt(what < 2 ? 10007 : 5003));
        }

        private boolean same(int kind, String call, boolean got, boolean want) {
            return same(kind, call, got ? 0 : -9, want ? 0 : -9);
        }

        private boolean same(int kind, String call, int got, int want) {
            if (got >= 0) {
                GOOD[kind]++;
            }
            calls.add(call + " answered " + got + ", due is " + want);
            return got == want;
        }
    }

    /** A statement of the model: a leaf when it has no sides. */
    private static final class Node {
        boolean all;
        Node left;
        Node right;
        int[] pairs = {};
        Integer witness;
        int nonce;
        int[] commitments;
        int challenge;
        int response;
        Node realSide;
        int drawn;

        boolean isLeaf() {
            return left == null;
        }

        void listLeaves(List<Node> into) {
            if (isLeaf()) {
                into.add(this);
            } else {
                left.listLeaves(into);
                right.listLeaves(into);
            }
        }
    }

    private static final class Model {
        final List<Node> stack = new ArrayList<>();
        List<Node> leaves = new ArrayList<>();
        Node tree;
        boolean committed;
        List<int[]> saved;
        int state;

        static int pow(int b, int e) {
            return BigInteger.valueOf(b).modPow(BigInteger.valueOf(e), BigInteger.valueOf(10007)).intValue();
        }

        static boolean element(int e) {
            return e >= 1 && e <= 10006 && pow(e, 5003) == 1;
        }

        static boolean exponent(int e) {
            return e >= 0 && e <= 5002;
        }

        static int modQ(long n) {
            return (int) Math.floorMod(n, 5003L);
        }

        int draw() {
            state = state * 1103515245 + 12345;
            return modQ((state >> 8) & 0xffffff);
        }

        int power(int b, int e) {
            return element(b) && exponent(e) ? pow(b, e) : -1;
        }

        boolean leaf(int... pairs) {
            for (int i = 0; i < pairs.length; i++) {
                if (!element(pairs[i]) || i % 2 == 0 && pairs[i] == 1) {
                    return false;
                }
            }
            if (stack.size() == 6) {
                return false;
            }
            Node node = new Node();
            node.pairs = pairs;
            node.commitments = new int[pairs.length / 2];
            stack.add(node);
            return true;
        }

        boolean equal(int b, int y, int d, int w) {
            return leaf(b, y, d, w);
        }

        boolean join(boolean all) {
            if (stack.size() < 2) {
                return false;
            }
            Node node = new Node();
            node.all = all;
            node.left = stack.get(stack.size() - 2);
            node.right = stack.get(stack.size() - 1);
            List<Node> under = new ArrayList<>();
            node.listLeaves(under);
            if (under.size() > 8) {
                return false;
            }
            discard();
            discard();
            stack.add(node);
            return true;
        }

        boolean discard() {
            return !stack.isEmpty() && stack.remove(stack.size() - 1) != null;
        }

        int accept() {
            if (stack.size() != 1) {
                return -1;
            }
            tree = stack.remove(0);
            leaves = new ArrayList<>();
            tree.listLeaves(leaves);
            committed = false;
            saved = null;
            return leaves.size();
        }

        private Node at(int leaf) {
            return leaf >= 0 && leaf < leaves.size() ? leaves.get(leaf) : null;
        }

        boolean tell(int leaf, int x) {
            Node node = at(leaf);
            if (node == null || !exponent(x)) {
                return false;
            }
            for (int i = 0; i < node.pairs.length; i += 2) {
                if (pow(node.pairs[i], x) != node.pairs[i + 1]) {
                    return false;
                }
            }
            node.witness = x;
            return true;
        }

        /** A witness below 8, or 0 when there is none such. */
        int smallWitness(int leaf) {
            int x = 0;
            while (at(leaf) != null && x < 8 && pow(at(leaf).pairs[0], x) != at(leaf).pairs[1]) {
                x++;
            }
            return x % 8;
        }

        int witness(int leaf) {
            if (tree == null) {
                return -2;
            }
            if (at(leaf) == null) {
                return -1;
            }
            return at(leaf).witness == null ? -3 : at(leaf).witness;
        }

        private boolean known(Node node) {
            if (node.isLeaf()) {
                return node.witness != null;
            }
            int sides = (known(node.left) ? 1 : 0) + (known(node.right) ? 1 : 0);
            return sides >= (node.all ? 2 : 1);
        }

        boolean known() {
            return tree != null && known(tree);
        }

        private void real(Node node) {
            if (node.isLeaf()) {
                node.nonce = draw();
                for (int i = 0; i < node.commitments.length; i++) {
                    node.commitments[i] = pow(node.pairs[2 * i], node.nonce);
                }
                node.challenge = 0;
                node.response = 0;
                return;
            }
            if (node.all) {
                real(node.left);
                real(node.right);
                return;
            }
            node.realSide = known(node.left) ? node.left : node.right;
            node.drawn = draw();
            for (Node side : new Node[] {node.left, node.right}) {
                if (side == node.realSide) {
                    real(side);
                } else {
                    simulated(side, node.drawn);
                }
            }
        }

        private void simulated(Node node, int c) {
            if (node.isLeaf()) {
                node.response = draw();
                node.challenge = c;
                for (int i = 0; i < node.commitments.length; i++) {
                    long a = pow(node.pairs[2 * i], node.response);
                    node.commitments[i] = (int) (a * pow(node.pairs[2 * i + 1], 5003 - c) % 10007);
                }
                return;
            }
            int d = node.all ? c : draw();
            simulated(node.left, d);
            simulated(node.right, node.all ? c : modQ(c - d));
        }

        private void answer(Node node, int c) {
            if (node.isLeaf()) {
                node.challenge = c;
                node.response = modQ(node.nonce + (long) c * node.witness);
            } else if (node.all) {
                answer(node.left, c);
                answer(node.right, c);
            } else {
                answer(node.realSide, modQ(c - node.drawn));
            }
        }

        int commit(int seed) {
            if (tree == null) {
                return -2;
            }
            if (!known()) {
                return -3;
            }
            state = seed;
            real(tree);
            committed = true;
            return 0;
        }

        int respond(int c) {
            if (tree == null) {
                return -2;
            }
            if (!exponent(c)) {
                return -1;
            }
            if (!committed) {
                return -4;
            }
            answer(tree, c);
            return 0;
        }

        int simulate(int c, int seed) {
            if (tree == null) {
                return -2;
            }
            if (!exponent(c)) {
                return -1;
            }
            state = seed;
            simulated(tree, c);
            committed = false;
            return 0;
        }

        int prove(int seed) {
            int answer = commit(seed);
            if (answer == 0) {
                answer = hash();
                respond(answer);
            }
            return answer;
        }

        int hash() {
            if (tree == null) {
                return -2;
            }
            int h = 17;
            for (Node node : leaves) {
                for (int i = 0; i < node.commitments.length; i++) {
                    h = 31 * h + node.pairs[2 * i];
                    h = 31 * h + node.pairs[2 * i + 1];
                    h = 31 * h + node.commitments[i];
                }
            }
            return modQ(h < 0 ? h + (1L << 31) : h);
        }

        /** For each leaf its parts as they are now: challenge, response, then the commitments. */
        private List<int[]> transcript() {
            List<int[]> rows = new ArrayList<>();
            for (Node node : leaves) {
                int[] row = new int[2 + node.commitments.length];
                row[0] = node.challenge;
                row[1] = node.response;
                System.arraycopy(node.commitments, 0, row, 2, node.commitments.length);
                rows.add(row);
            }
            return rows;
        }

        /** Null when it has none. */
        private Integer challenge(Node node, List<int[]> rows) {
            if (node.isLeaf()) {
                return rows.get(leaves.indexOf(node))[0];
            }
            Integer a = challenge(node.left, rows);
            Integer b = challenge(node.right, rows);
            if (a == null || b == null) {
                return null;
            }
            if (node.all) {
                return a.equals(b) ? a : null;
            }
            return modQ(a + b);
        }

        private boolean accepted(List<int[]> rows) {
            for (int leaf = 0; leaf < leaves.size(); leaf++) {
                int[] pairs = leaves.get(leaf).pairs;
                int[] row = rows.get(leaf);
                for (int i = 0; 2 * i < pairs.length; i++) {
                    long right = (long) row[2 + i] * pow(pairs[2 * i + 1], row[0]) % 10007;
                    if (pow(pairs[2 * i], row[1]) != right) {
                        return false;
                    }
                }
            }
            return challenge(tree, rows) != null;
        }

        boolean verify() {
            return tree != null && accepted(transcript());
        }

        int challenge() {
            if (tree == null) {
                return -2;
            }
            Integer c = challenge(tree, transcript());
            return c == null ? -4 : c;
        }

        int part(int leaf, int what) {
            if (tree == null) {
                return -2;
            }
            Node node = at(leaf);
            if (node == null || what < 0 || what > 3) {
                return -1;
            }
            if (what >= 2) {
                return what == 2 ? node.challenge : node.response;
            }
            return what < node.commitments.length ? node.commitments[what] : -1;
        }

        boolean change(int leaf, int what, int v) {
            if (part(leaf, what) < 0 || v < 0 || v > (what < 2 ? 10006 : 5002)) {
                return false;
            }
            Node node = at(leaf);
            if (what < 2) {
                node.commitments[what] = v;
            } else if (what == 2) {
                node.challenge = v;
            } else {
                node.response = v;
            }
            return true;
        }

        boolean save() {
            if (tree == null) {
                return false;
            }
            saved = transcript();
            return true;
        }

        int extract() {
            if (tree == null) {
                return -2;
            }
            List<int[]> now = transcript();
            if (saved == null || !accepted(saved) || !accepted(now)) {
                return -4;
            }
            for (int leaf = 0; leaf < leaves.size(); leaf++) {
                for (int i = 2; i < now.get(leaf).length; i++) {
                    if (now.get(leaf)[i] != saved.get(leaf)[i]) {
                        return -4;
                    }
                }
            }
            int count = 0;
            for (int leaf = 0; leaf < leaves.size(); leaf++) {
                int c = modQ(now.get(leaf)[0] - saved.get(leaf)[0]);
                if (c != 0) {
                    BigInteger inverse = BigInteger.valueOf(c).modInverse(BigInteger.valueOf(5003));
                    leaves.get(leaf).witness =
                        modQ(inverse.longValue() * (now.get(leaf)[1] - saved.get(leaf)[1]));
                    count++;
                }
            }
            return count;
        }
    }
}
