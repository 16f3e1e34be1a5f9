import java.math.BigInteger;
import java.util.ArrayList;
import java.util.List;

/** A second, plain writing of the document, with which the program's answers are compared. */
final class Model implements Desk {
    final List<Node> stack = new ArrayList<>();
    List<Node> leaves = new ArrayList<>();
    Node tree;
    boolean committed;
    List<int[]> saved;
    int state;

    static int pow(int b, int e) {
        return BigInteger.valueOf(b).modPow(BigInteger.valueOf(e), BigInteger.valueOf(10007)).intValue();
    }

    static boolean element(int e) {
        return e >= 1 && e <= 10006 && pow(e, 5003) == 1;
    }

    static boolean exponent(int e) {
        return e >= 0 && e <= 5002;
    }

    static int modQ(long n) {
        return (int) Math.floorMod(n, 5003L);
    }

    int draw() {
        state = state * 1103515245 + 12345;
        return modQ((state >> 8) & 0xffffff);
    }

    @Override
    public int power(int b, int e) {
        return element(b) && exponent(e) ? pow(b, e) : -1;
    }

    @Override
    public boolean leaf(int b, int y) {
        return put(b, y);
    }

    private boolean put(int... pairs) {
        for (int i = 0; i < pairs.length; i++) {
            if (!element(pairs[i]) || i % 2 == 0 && pairs[i] == 1) {
                return false;
            }
        }
        if (stack.size() == 6) {
            return false;
        }
        Node node = new Node();
        node.pairs = pairs;
        node.commitments = new int[pairs.length / 2];
        stack.add(node);
        return true;
    }

    @Override
    public boolean equal(int b, int y, int d, int w) {
        return put(b, y, d, w);
    }

    @Override
    public boolean join(boolean all) {
        if (stack.size() < 2) {
            return false;
        }
        Node node = new Node();
        node.all = all;
        node.left = stack.get(stack.size() - 2);
        node.right = stack.get(stack.size() - 1);
        List<Node> under = new ArrayList<>();
        node.listLeaves(under);
        if (under.size() > 8) {
            return false;
        }
        discard();
        discard();
        stack.add(node);
        return true;
    }

    @Override
    public boolean discard() {
        return !stack.isEmpty() && stack.remove(stack.size() - 1) != null;
    }

    @Override
    public int accept() {
        if (stack.size() != 1) {
            return -1;
        }
        tree = stack.remove(0);
        leaves = new ArrayList<>();
        tree.listLeaves(leaves);
        committed = false;
        saved = null;
        return leaves.size();
    }

    private Node at(int leaf) {
        return leaf >= 0 && leaf < leaves.size() ? leaves.get(leaf) : null;
    }

    @Override
    public boolean tell(int leaf, int x) {
        Node node = at(leaf);
        if (node == null || !exponent(x)) {
            return false;
        }
        for (int i = 0; i < node.pairs.length; i += 2) {
            if (pow(node.pairs[i], x) != node.pairs[i + 1]) {
                return false;
            }
        }
        node.witness = x;
        return true;
    }

    /** A witness below 8, or 0 when there is none such. */
    int smallWitness(int leaf) {
        int x = 0;
        while (at(leaf) != null && x < 8 && pow(at(leaf).pairs[0], x) != at(leaf).pairs[1]) {
            x++;
        }
        return x % 8;
    }

    @Override
    public int witness(int leaf) {
        if (tree == null) {
            return -2;
        }
        if (at(leaf) == null) {
            return -1;
        }
        return at(leaf).witness == null ? -3 : at(leaf).witness;
    }

    private boolean known(Node node) {
        if (node.isLeaf()) {
            return node.witness != null;
        }
        int sides = (known(node.left) ? 1 : 0) + (known(node.right) ? 1 : 0);
        return sides >= (node.all ? 2 : 1);
    }

    @Override
    public boolean known() {
        return tree != null && known(tree);
    }

    private void real(Node node) {
        if (node.isLeaf()) {
            node.nonce = draw();
            for (int i = 0; i < node.commitments.length; i++) {
                node.commitments[i] = pow(node.pairs[2 * i], node.nonce);
            }
            node.challenge = 0;
            node.response = 0;
            return;
        }
        if (node.all) {
            real(node.left);
            real(node.right);
            return;
        }
        node.realSide = known(node.left) ? node.left : node.right;
        node.drawn = draw();
        for (Node side : new Node[] {node.left, node.right}) {
            if (side == node.realSide) {
                real(side);
            } else {
                simulated(side, node.drawn);
            }
        }
    }

    private void simulated(Node node, int c) {
        if (node.isLeaf()) {
            node.response = draw();
            node.challenge = c;
            for (int i = 0; i < node.commitments.length; i++) {
                long a = pow(node.pairs[2 * i], node.response);
                node.commitments[i] = (int) (a * pow(node.pairs[2 * i + 1], 5003 - c) % 10007);
            }
            return;
        }
        int d = node.all ? c : draw();
        simulated(node.left, d);
        simulated(node.right, node.all ? c : modQ(c - d));
    }

    private void answer(Node node, int c) {
        if (node.isLeaf()) {
            node.challenge = c;
            node.response = modQ(node.nonce + (long) c * node.witness);
        } else if (node.all) {
            answer(node.left, c);
            answer(node.right, c);
        } else {
            answer(node.realSide, modQ(c - node.drawn));
        }
    }

    @Override
    public int commit(int seed) {
        if (tree == null) {
            return -2;
        }
        if (!known()) {
            return -3;
        }
        state = seed;
        real(tree);
        committed = true;
        return 0;
    }

    @Override
    public int respond(int c) {
        if (tree == null) {
            return -2;
        }
        if (!exponent(c)) {
            return -1;
        }
        if (!committed) {
            return -4;
        }
        answer(tree, c);
        return 0;
    }

    @Override
    public int simulate(int c, int seed) {
        if (tree == null) {
            return -2;
        }
        if (!exponent(c)) {
            return -1;
        }
        state = seed;
        simulated(tree, c);
        committed = false;
        return 0;
    }

    @Override
    public int prove(int seed) {
        int answer = commit(seed);
        if (answer == 0) {
            answer = hash();
            respond(answer);
        }
        return answer;
    }

    @Override
    public int hash() {
        if (tree == null) {
            return -2;
        }
        int h = 17;
        for (Node node : leaves) {
            for (int i = 0; i < node.commitments.length; i++) {
                h = 31 * h + node.pairs[2 * i];
                h = 31 * h + node.pairs[2 * i + 1];
                h = 31 * h + node.commitments[i];
            }
        }
        return modQ(h < 0 ? h + (1L << 31) : h);
    }

    /** For each leaf its parts as they are now: challenge, response, then the commitments. */
    private List<int[]> transcript() {
        List<int[]> rows = new ArrayList<>();
        for (Node node : leaves) {
            int[] row = new int[2 + node.commitments.length];
            row[0] = node.challenge;
            row[1] = node.response;
            System.arraycopy(node.commitments, 0, row, 2, node.commitments.length);
            rows.add(row);
        }
        return rows;
    }

    /** Null when it has none. */
    private Integer challenge(Node node, List<int[]> rows) {
        if (node.isLeaf()) {
            return rows.get(leaves.indexOf(node))[0];
        }
        Integer a = challenge(node.left, rows);
        Integer b = challenge(node.right, rows);
        if (a == null || b == null) {
            return null;
        }
        if (node.all) {
            return a.equals(b) ? a : null;
        }
        return modQ(a + b);
    }

    private boolean accepted(List<int[]> rows) {
        for (int leaf = 0; leaf < leaves.size(); leaf++) {
            int[] pairs = leaves.get(leaf).pairs;
            int[] row = rows.get(leaf);
            for (int i = 0; 2 * i < pairs.length; i++) {
                long right = (long) row[2 + i] * pow(pairs[2 * i + 1], row[0]) % 10007;
                if (pow(pairs[2 * i], row[1]) != right) {
                    return false;
                }
            }
        }
        return challenge(tree, rows) != null;
    }

    @Override
    public boolean verify() {
        return tree != null && accepted(transcript());
    }

    @Override
    public int challenge() {
        if (tree == null) {
            return -2;
        }
        Integer c = challenge(tree, transcript());
        return c == null ? -4 : c;
    }

    @Override
    public int part(int leaf, int what) {
        if (tree == null) {
            return -2;
        }
        Node node = at(leaf);
        if (node == null || what < 0 || what > 3) {
            return -1;
        }
        if (what >= 2) {
            return what == 2 ? node.challenge : node.response;
        }
        return what < node.commitments.length ? node.commitments[what] : -1;
    }

    @Override
    public boolean change(int leaf, int what, int v) {
        if (part(leaf, what) < 0 || v < 0 || v > (what < 2 ? 10006 : 5002)) {
            return false;
        }
        Node node = at(leaf);
        if (what < 2) {
            node.commitments[what] = v;
        } else if (what == 2) {
            node.challenge = v;
        } else {
            node.response = v;
        }
        return true;
    }

    @Override
    public boolean save() {
        if (tree == null) {
            return false;
        }
        saved = transcript();
        return true;
    }

    @Override
    public int extract() {
        if (tree == null) {
            return -2;
        }
        List<int[]> now = transcript();
        if (saved == null || !accepted(saved) || !accepted(now)) {
            return -4;
        }
        for (int leaf = 0; leaf < leaves.size(); leaf++) {
            for (int i = 2; i < now.get(leaf).length; i++) {
                if (now.get(leaf)[i] != saved.get(leaf)[i]) {
                    return -4;
                }
            }
        }
        int count = 0;
        for (int leaf = 0; leaf < leaves.size(); leaf++) {
            int c = modQ(now.get(leaf)[0] - saved.get(leaf)[0]);
            if (c != 0) {
                BigInteger inverse = BigInteger.valueOf(c).modInverse(BigInteger.valueOf(5003));
                leaves.get(leaf).witness =
                    modQ(inverse.longValue() * (now.get(leaf)[1] - saved.get(leaf)[1]));
                count++;
            }
        }
        return count;
    }

    /** A statement of the model: a leaf when it has no sides. */
    private static final class Node {
        boolean all;
        Node left;
        Node right;
        int[] pairs = {};
        Integer witness;
        int nonce;
        int[] commitments;
        int challenge;
        int response;
        Node realSide;
        int drawn;

        boolean isLeaf() {
            return left == null;
        }

        void listLeaves(List<Node> into) {
            if (isLeaf()) {
                into.add(this);
            } else {
                left.listLeaves(into);
                right.listLeaves(into);
            }
        }
    }
}
