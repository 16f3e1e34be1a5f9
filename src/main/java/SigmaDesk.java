import java.util.Arrays;

public final class SigmaDesk {
    public static final int BAD = -1;
    public static final int NONE = -2;
    public static final int UNKNOWN = -3;
    public static final int ORDER = -4;

    private static final int P = 10007;
    private static final int Q = 5003;
    // Q itself is the greatest exponent ever used, and it is below 2^13.
    private static final int EXPONENT_BITS = 13;

    private static final int MOST_STATEMENTS = 6;
    private static final int MOST_LEAVES = 8;

    // What a leaf has in a transcript, numbered as part() and change() number it.
    private static final int SECOND_COMMITMENT = 1;
    private static final int CHALLENGE = 2;
    private static final int RESPONSE = 3;
    private static final int PARTS = 4;

    private static final int NO_CHALLENGE = -1;

    private final Statement[] stack;
    private int height;

    private Statement tree;
    private final Leaf[] leaves;
    private int leafCount;

    private final Drawing drawing;
    private final Transcript present;
    private final Transcript kept;
    private boolean isKept;
    private boolean canRespond;

    public SigmaDesk() {
        stack = new Statement[MOST_STATEMENTS];
        height = 0;
        tree = null;
        leaves = new Leaf[MOST_LEAVES];
        leafCount = 0;
        drawing = new Drawing();
        present = new Transcript();
        kept = new Transcript();
        isKept = false;
        canRespond = false;
    }

    public int power(int b, int e) {
        if (!isElement(b) || !isExponent(e)) {
            return BAD;
        }
        return raise(b, e, P);
    }

    public boolean leaf(int b, int y) {
        if (isFull() || !isPair(b, y)) {
            return false;
        }
        push(new Leaf(new int[] {b}, new int[] {y}));
        return true;
    }

    public boolean equal(int b, int y, int d, int w) {
        if (isFull() || !isPair(b, y) || !isPair(d, w)) {
            return false;
        }
        push(new Leaf(new int[] {b, d}, new int[] {y, w}));
        return true;
    }

    public boolean join(boolean all) {
        if (height < 2) {
            return false;
        }
        Statement left = stack[height - 2];
        Statement right = stack[height - 1];
        // This limit also keeps every walk through a tree at most eight levels deep.
        if (left.size + right.size > MOST_LEAVES) {
            return false;
        }
        drop();
        drop();
        push(all ? new And(left, right) : new Or(left, right));
        return true;
    }

    public boolean discard() {
        if (height == 0) {
            return false;
        }
        drop();
        return true;
    }

    public int accept() {
        if (height != 1) {
            return BAD;
        }
        tree = stack[0];
        drop();
        leafCount = tree.numberLeaves(leaves, 0);
        present.clear();
        isKept = false;
        canRespond = false;
        return leafCount;
    }

    public boolean tell(int leaf, int x) {
        if (!isLeaf(leaf) || !isExponent(x) || !leaves[leaf].fits(x)) {
            return false;
        }
        leaves[leaf].learn(x);
        return true;
    }

    public int witness(int leaf) {
        if (tree == null) {
            return NONE;
        }
        if (!isLeaf(leaf)) {
            return BAD;
        }
        return leaves[leaf].isKnown() ? leaves[leaf].witness : UNKNOWN;
    }

    public boolean known() {
        return tree != null && tree.isKnown();
    }

    public int commit(int seed) {
        if (tree == null) {
            return NONE;
        }
        if (!tree.isKnown()) {
            return UNKNOWN;
        }
        drawing.start(seed);
        tree.commitReal(present, drawing);
        canRespond = true;
        return 0;
    }

    public int respond(int c) {
        if (tree == null) {
            return NONE;
        }
        if (!isExponent(c)) {
            return BAD;
        }
        if (!canRespond) {
            return ORDER;
        }
        tree.respondTo(c, present);
        return 0;
    }

    public int simulate(int c, int seed) {
        if (tree == null) {
            return NONE;
        }
        if (!isExponent(c)) {
            return BAD;
        }
        drawing.start(seed);
        tree.commitSimulated(c, present, drawing);
        canRespond = false;
        return 0;
    }

    public int prove(int seed) {
        int answer = commit(seed);
        if (answer < 0) {
            return answer;
        }
        int c = hash();
        respond(c);
        return c;
    }

    public int hash() {
        if (tree == null) {
            return NONE;
        }
        int h = 17;
        for (int i = 0; i < leafCount; i++) {
            h = leaves[i].mixInto(h, present);
        }
        return (h & Integer.MAX_VALUE) % Q;
    }

    public boolean verify() {
        return tree != null && isAccepted(present);
    }

    public int challenge() {
        if (tree == null) {
            return NONE;
        }
        int c = tree.challengeIn(present);
        return c == NO_CHALLENGE ? ORDER : c;
    }

    public int part(int leaf, int what) {
        if (tree == null) {
            return NONE;
        }
        if (!isPart(leaf, what)) {
            return BAD;
        }
        return present.get(leaf, what);
    }

    public boolean change(int leaf, int what, int v) {
        if (!isPart(leaf, what)) {
            return false;
        }
        int limit = what <= SECOND_COMMITMENT ? P : Q;
        if (v < 0 || v >= limit) {
            return false;
        }
        present.set(leaf, what, v);
        return true;
    }

    public boolean save() {
        if (tree == null) {
            return false;
        }
        kept.copy(present);
        isKept = true;
        return true;
    }

    public int extract() {
        if (tree == null) {
            return NONE;
        }
        if (!isKept || !isAccepted(kept) || !isAccepted(present) || !sameCommitments()) {
            return ORDER;
        }
        int count = 0;
        for (int i = 0; i < leafCount; i++) {
            if (present.get(i, CHALLENGE) != kept.get(i, CHALLENGE)) {
                leaves[i].learn(givenAway(i));
                count++;
            }
        }
        return count;
    }

    private boolean isFull() {
        return height >= MOST_STATEMENTS;
    }

    private void push(Statement statement) {
        stack[height] = statement;
        height++;
    }

    private void drop() {
        height--;
        stack[height] = null;
    }

    private boolean isLeaf(int leaf) {
        return leaf >= 0 && leaf < leafCount;
    }

    private boolean isPart(int leaf, int what) {
        if (!isLeaf(leaf) || what < 0 || what >= PARTS) {
            return false;
        }
        return what != SECOND_COMMITMENT || leaves[leaf].pairs() == 2;
    }

    private boolean isAccepted(Transcript transcript) {
        for (int i = 0; i < leafCount; i++) {
            if (!leaves[i].holdsIn(transcript)) {
                return false;
            }
        }
        return tree.challengeIn(transcript) != NO_CHALLENGE;
    }

    private boolean sameCommitments() {
        for (int i = 0; i < leafCount; i++) {
            for (int k = 0; k < leaves[i].pairs(); k++) {
                if (present.get(i, k) != kept.get(i, k)) {
                    return false;
                }
            }
        }
        return true;
    }

    private int givenAway(int leaf) {
        int responses = minus(present.get(leaf, RESPONSE), kept.get(leaf, RESPONSE));
        int challenges = minus(present.get(leaf, CHALLENGE), kept.get(leaf, CHALLENGE));
        // Q is prime, so the power of Q - 2 is the inverse.
        return responses * raise(challenges, Q - 2, Q) % Q;
    }

    private static boolean isElement(int e) {
        return e >= 1 && e < P && raise(e, Q, P) == 1;
    }

    private static boolean isExponent(int e) {
        return e >= 0 && e < Q;
    }

    private static boolean isPair(int b, int y) {
        return b != 1 && isElement(b) && isElement(y);
    }

    private static int minus(int a, int b) {
        return a >= b ? a - b : a - b + Q;
    }

    // The modulus is at most P, whose square is an int.
    private static int raise(int number, int exponent, int modulus) {
        int result = 1;
        for (int bit = EXPONENT_BITS - 1; bit >= 0; bit--) {
            result = result * result % modulus;
            if ((exponent >> bit & 1) == 1) {
                result = result * number % modulus;
            }
        }
        return result;
    }

    private static final class Drawing {
        private int state;

        void start(int seed) {
            state = seed;
        }

        int draw() {
            state = state * 1103515245 + 12345;
            return (state >>> 8) % Q;
        }
    }

    private static final class Transcript {
        private final int[] parts;

        Transcript() {
            parts = new int[MOST_LEAVES * PARTS];
        }

        int get(int leaf, int what) {
            return parts[leaf * PARTS + what];
        }

        void set(int leaf, int what, int v) {
            parts[leaf * PARTS + what] = v;
        }

        void clear() {
            Arrays.fill(parts, 0);
        }

        void copy(Transcript other) {
            System.arraycopy(other.parts, 0, parts, 0, parts.length);
        }
    }

    private abstract static class Statement {
        final int size;

        Statement(int size) {
            this.size = size;
        }

        // Answers the number that the next leaf to the right gets.
        abstract int numberLeaves(Leaf[] row, int next);

        abstract boolean isKnown();

        abstract void commitReal(Transcript transcript, Drawing drawing);

        abstract void commitSimulated(int c, Transcript transcript, Drawing drawing);

        // Only for a statement that was committed as a real one.
        abstract void respondTo(int c, Transcript transcript);

        abstract int challengeIn(Transcript transcript);
    }

    private static final class Leaf extends Statement {
        private final int[] bases;
        private final int[] elements;
        private int number;
        private boolean told;
        private int witness;
        private int nonce;

        Leaf(int[] bases, int[] elements) {
            super(1);
            this.bases = bases;
            this.elements = elements;
        }

        int pairs() {
            return bases.length;
        }

        boolean fits(int x) {
            for (int k = 0; k < bases.length; k++) {
                if (raise(bases[k], x, P) != elements[k]) {
                    return false;
                }
            }
            return true;
        }

        void learn(int x) {
            told = true;
            witness = x;
        }

        int mixInto(int h, Transcript transcript) {
            int mixed = h;
            for (int k = 0; k < bases.length; k++) {
                mixed = 31 * mixed + bases[k];
                mixed = 31 * mixed + elements[k];
                mixed = 31 * mixed + transcript.get(number, k);
            }
            return mixed;
        }

        boolean holdsIn(Transcript transcript) {
            int c = transcript.get(number, CHALLENGE);
            int response = transcript.get(number, RESPONSE);
            for (int k = 0; k < bases.length; k++) {
                int due = transcript.get(number, k) * raise(elements[k], c, P) % P;
                if (raise(bases[k], response, P) != due) {
                    return false;
                }
            }
            return true;
        }

        @Override
        int numberLeaves(Leaf[] row, int next) {
            number = next;
            row[next] = this;
            return next + 1;
        }

        @Override
        boolean isKnown() {
            return told;
        }

        @Override
        void commitReal(Transcript transcript, Drawing drawing) {
            nonce = drawing.draw();
            for (int k = 0; k < bases.length; k++) {
                transcript.set(number, k, raise(bases[k], nonce, P));
            }
            transcript.set(number, CHALLENGE, 0);
            transcript.set(number, RESPONSE, 0);
        }

        @Override
        void commitSimulated(int c, Transcript transcript, Drawing drawing) {
            int response = drawing.draw();
            for (int k = 0; k < bases.length; k++) {
                int commitment = raise(bases[k], response, P) * raise(elements[k], Q - c, P) % P;
                transcript.set(number, k, commitment);
            }
            transcript.set(number, CHALLENGE, c);
            transcript.set(number, RESPONSE, response);
        }

        @Override
        void respondTo(int c, Transcript transcript) {
            transcript.set(number, CHALLENGE, c);
            transcript.set(number, RESPONSE, (nonce + c * witness) % Q);
        }

        @Override
        int challengeIn(Transcript transcript) {
            return transcript.get(number, CHALLENGE);
        }
    }

    private abstract static class Join extends Statement {
        final Statement left;
        final Statement right;

        Join(Statement left, Statement right) {
            super(left.size + right.size);
            this.left = left;
            this.right = right;
        }

        @Override
        int numberLeaves(Leaf[] row, int next) {
            return right.numberLeaves(row, left.numberLeaves(row, next));
        }
    }

    private static final class And extends Join {
        And(Statement left, Statement right) {
            super(left, right);
        }

        @Override
        boolean isKnown() {
            return left.isKnown() && right.isKnown();
        }

        @Override
        void commitReal(Transcript transcript, Drawing drawing) {
            left.commitReal(transcript, drawing);
            right.commitReal(transcript, drawing);
        }

        @Override
        void commitSimulated(int c, Transcript transcript, Drawing drawing) {
            left.commitSimulated(c, transcript, drawing);
            right.commitSimulated(c, transcript, drawing);
        }

        @Override
        void respondTo(int c, Transcript transcript) {
            left.respondTo(c, transcript);
            right.respondTo(c, transcript);
        }

        @Override
        int challengeIn(Transcript transcript) {
            int c = left.challengeIn(transcript);
            return c == right.challengeIn(transcript) ? c : NO_CHALLENGE;
        }
    }

    private static final class Or extends Join {
        // Kept from the commitment: what is told or changed later does not alter them.
        private boolean leftIsReal;
        private int otherChallenge;

        Or(Statement left, Statement right) {
            super(left, right);
        }

        @Override
        boolean isKnown() {
            return left.isKnown() || right.isKnown();
        }

        @Override
        void commitReal(Transcript transcript, Drawing drawing) {
            leftIsReal = left.isKnown();
            otherChallenge = drawing.draw();
            if (leftIsReal) {
                left.commitReal(transcript, drawing);
                right.commitSimulated(otherChallenge, transcript, drawing);
            } else {
                left.commitSimulated(otherChallenge, transcript, drawing);
                right.commitReal(transcript, drawing);
            }
        }

        @Override
        void commitSimulated(int c, Transcript transcript, Drawing drawing) {
            int d = drawing.draw();
            left.commitSimulated(d, transcript, drawing);
            right.commitSimulated(minus(c, d), transcript, drawing);
        }

        @Override
        void respondTo(int c, Transcript transcript) {
            Statement real = leftIsReal ? left : right;
            real.respondTo(minus(c, otherChallenge), transcript);
        }

        @Override
        int challengeIn(Transcript transcript) {
            int ofLeft = left.challengeIn(transcript);
            int ofRight = right.challengeIn(transcript);
            if (ofLeft == NO_CHALLENGE || ofRight == NO_CHALLENGE) {
                return NO_CHALLENGE;
            }
            return (ofLeft + ofRight) % Q;
        }
    }
}
