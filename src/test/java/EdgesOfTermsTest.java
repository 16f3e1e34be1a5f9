/**
 * The boundary cases that "What it is" and "Terms" name: a method for each sentence, which is told
 * above it, with calls on both sides of the boundary.
 */
public final class EdgesOfTermsTest extends Check {
    private static final int MOST_CALLS = 512;

    public static void main(String[] args) {
        callsUpTo512();
        elements();
        productsAndPowersModuloP();
        exponentsModuloQ();
        bases();
        witnessForAllPairs();
        stackOfAtMost6();
        leavesFromTheLeft();
        leafIsKnown();
        andIsKnown();
        orIsKnown();
        transcriptAtFirst();
        challengeOfLeaf();
        challengeOfOr();
        challengeOfAnd();
        challengeWithASideOfNone();
        leafAcceptsForEachPair();
        transcriptIsAccepted();
        drawingWraps();
        drawingWithoutLowestBits();
        drawingModuloQ();
        realLeaf();
        simulatedLeaf();
        committedAnd();
        realSideOfOr();
        drawnForTheOtherSide();
        simulatedOr();
        respondingLeaf();
        respondingAnd();
        respondingOr();
        hashStartsAt17();
        hashWraps();
        hashWithoutSignBit();
        hashModuloQ();
        noneBeforeBad();
        badBeforeOrder();
        finish();
    }

    // "An object is used for at most 512 calls after it has been made"
    private static void callsUpTo512() {
        leavesComeAndGo();
        treesComeAndGo();
        joinsComeAndGo();
        responsesComeAndGo();
        SigmaDesk x = single();
        x.commit(1);
        x.respond(1);
        for (int call = 5; call < MOST_CALLS; call += 2) {
            due("512 save() as call " + call, x.save(), true);
            due("512 extract()", x.extract(), 0);
        }
    }

    private static void leavesComeAndGo() {
        SigmaDesk x = new SigmaDesk();
        for (int call = 0; call < MOST_CALLS; call += 2) {
            due("512 equal() as call " + call, x.equal(4, 4, 9, 9), true);
            due("512 discard()", x.discard(), true);
        }
        x = new SigmaDesk();
        for (int i = 0; i < 6; i++) {
            x.leaf(4, 4);
        }
        for (int call = 6; call < MOST_CALLS; call++) {
            due("512 leaf() as call " + call, x.leaf(4, 4), false);
        }
    }

    private static void treesComeAndGo() {
        SigmaDesk x = new SigmaDesk();
        for (int call = 0; call < MOST_CALLS - 3; call += 4) {
            due("512 leaf() as call " + call, x.leaf(4, pow(4, call)), true);
            due("512 accept()", x.accept(), 1);
            due("512 tell()", x.tell(0, call), true);
            due("512 commit()", x.commit(call), 0);
        }
    }

    private static void joinsComeAndGo() {
        SigmaDesk x = new SigmaDesk();
        for (int call = 0; call < MOST_CALLS - 3; call += 4) {
            due("512 leaf() as call " + call, x.leaf(4, 4), true);
            due("512 leaf()", x.leaf(4, 4), true);
            due("512 join()", x.join(false), true);
            due("512 accept()", x.accept(), 2);
        }
    }

    private static void responsesComeAndGo() {
        SigmaDesk x = single();
        x.commit(1);
        for (int call = 4; call < MOST_CALLS; call += 2) {
            due("512 respond() as call " + call, x.respond(call), 0);
            due("512 verify()", x.verify(), true);
        }
    }

    // "ELEMENTS are the numbers e from 1 to 10006 with e^Q = 1 modulo P"
    private static void elements() {
        SigmaDesk x = new SigmaDesk();
        for (int e : new int[] {1, 2, 3, 4, 9, 10002}) {
            due("element " + e, x.power(e, 1), e);
        }
        for (int e : NO_ELEMENTS) {
            due("no element " + e, x.power(e, 1), BAD);
            due("no element " + e, x.power(e, 0), BAD);
        }
        int count = 0;
        for (int e = 1; e <= 10006; e++) {
            // Half of them are elements; of e and P - e just one is.
            boolean element = pow(e, Q) == 1;
            SigmaDesk y = new SigmaDesk();
            due("power(" + e + ", 1)", y.power(e, 1), element ? e : BAD);
            due("leaf(4, " + e + ")", y.leaf(4, e), element);
            due("power(P - " + e + ", 1)", y.power(P - e, 1), element ? BAD : P - e);
            count += element ? 1 : 0;
        }
        due("how many elements", count, Q);
        nothingOutsideIsAnElement();
    }

    /** Numbers from all of the int range, many of them like an element modulo P. */
    private static void nothingOutsideIsAnElement() {
        SigmaDesk x = null;
        for (int i = 0; i < 400 * 1000; i++) {
            if (i % 400 == 0) {
                x = new SigmaDesk();
            }
            int e = Integer.MIN_VALUE + i * 10737;
            if (e < 1 || e > 10006) {
                due("no element " + e, x.power(e, 1), BAD);
            }
        }
    }

    // "their products and powers are reckoned modulo P"
    private static void productsAndPowersModuloP() {
        SigmaDesk x = new SigmaDesk();
        due("power(2, 13)", x.power(2, 13), 8192);
        due("power(2, 14)", x.power(2, 14), 6377);
        due("power(10002, 2)", x.power(10002, 2), 25);
        due("power(10002, 3)", x.power(10002, 3), P - 125);
        due("power(10002, 5002)", x.power(10002, 5002), pow(10002, P - 2));

        // The products at a leaf: b^response = commitment times y^challenge, 10002 * 10002 = 25.
        x = new SigmaDesk();
        x.leaf(25, 10002);
        x.accept();
        x.change(0, 0, 10002);
        x.change(0, 2, 1);
        x.change(0, 3, 1);
        due("25 = 10002 * 10002", x.verify(), true);
        x.change(0, 0, 10001);
        due("25 = 10001 * 10002", x.verify(), false);
    }

    // "EXPONENTS (0 .. 5002) modulo Q"
    private static void exponentsModuloQ() {
        SigmaDesk x = new SigmaDesk();
        x.leaf(4, 4);
        x.accept();
        x.tell(0, 1);
        x.commit(seedDrawing(2));
        x.respond(5000);
        due("2 + 5000", x.part(0, 3), 5002);
        x.respond(5001);
        due("2 + 5001", x.part(0, 3), 0);
        due("2 + 5001 accepts", x.verify(), true);
        x.respond(5002);
        due("2 + 5002", x.part(0, 3), 1);

        x = new SigmaDesk();
        x.leaf(4, pow(4, Q - 1));
        x.accept();
        x.tell(0, 5002);
        x.commit(seedDrawing(5002));
        x.respond(5002);
        due("5002 + 5002 * 5002", x.part(0, 3), 0);
        due("5002 + 5002 * 5002 accepts", x.verify(), true);
    }

    // "A BASE is an element other than 1."
    private static void bases() {
        SigmaDesk x = new SigmaDesk();
        due("leaf(1, 1)", x.leaf(1, 1), false);
        due("leaf(1, 2)", x.leaf(1, 2), false);
        due("equal(1, 1, 4, 4)", x.equal(1, 1, 4, 4), false);
        due("equal(4, 4, 1, 1)", x.equal(4, 4, 1, 1), false);
        due("leaf(2, 1)", x.leaf(2, 1), true);
        due("leaf(10002, 10002)", x.leaf(10002, 10002), true);
        due("leaf(10003, 2)", x.leaf(10003, 2), false);
        due("equal(2, 1, 10002, 1)", x.equal(2, 1, 10002, 1), true);
        due("power(1, 5002), 1 being an element", x.power(1, 5002), 1);
        for (int b = 2; b <= 10006; b++) {
            SigmaDesk y = new SigmaDesk();
            boolean base = pow(b, Q) == 1;
            due("leaf(" + b + ", 4)", y.leaf(b, 4), base);
            due("equal(" + b + ", 4, 4, 4)", y.equal(b, 4, 4, 4), base);
            due("equal(4, 4, " + b + ", 4)", y.equal(4, 4, b, 4), base);
        }
    }

    // "an exponent x, its WITNESS, with y = b^x for all its pairs"
    private static void witnessForAllPairs() {
        SigmaDesk x = new SigmaDesk();
        x.equal(4, pow(4, 5), 9, pow(9, 5));
        x.equal(4, pow(4, 5), 9, pow(9, 6));
        x.equal(4, pow(4, 6), 9, pow(9, 5));
        x.join(true);
        x.join(true);
        x.accept();
        due("both pairs", x.tell(0, 5), true);
        for (int e : new int[] {5, 6}) {
            due("only one pair, " + e, x.tell(1, e), false);
            due("only one pair, " + e, x.tell(2, e), false);
        }
    }

    // "a STACK of at most 6 statements"
    private static void stackOfAtMost6() {
        SigmaDesk x = new SigmaDesk();
        for (int i = 1; i <= 6; i++) {
            due("statement " + i, i % 2 == 0 ? x.leaf(4, 4) : x.equal(4, 4, 9, 9), true);
        }
        due("a seventh leaf", x.leaf(4, 4), false);
        due("a seventh equal", x.equal(4, 4, 9, 9), false);
        due("a join makes room", x.join(true), true);
        due("a sixth again", x.equal(4, 4, 9, 9), true);
        due("a seventh again", x.leaf(4, 4), false);
        due("a discard makes room", x.discard(), true);
        due("a sixth again", x.leaf(4, 4), true);
        due("a seventh again", x.equal(4, 4, 9, 9), false);

        // A tree is not on the stack.
        x = new SigmaDesk();
        x.leaf(4, 4);
        x.accept();
        for (int i = 1; i <= 6; i++) {
            due("statement " + i + " beside a tree", x.leaf(4, 4), true);
        }
        due("a seventh beside a tree", x.leaf(4, 4), false);
    }

    // "its leaves are numbered 0, 1, .. from the left to the right"
    private static void leavesFromTheLeft() {
        for (int leaves = 1; leaves <= 8; leaves++) {
            SigmaDesk x = new SigmaDesk();
            stackChain(x, leaves, true);
            x.accept();
            dueNumbered("a chain to the left", x, leaves);
        }
        // The last joins first: 1 (2 (3 (4 (5 6)))), which leans to the right.
        SigmaDesk x = new SigmaDesk();
        for (int i = 1; i <= 6; i++) {
            x.leaf(4, pow(4, i));
        }
        for (int i = 1; i <= 5; i++) {
            x.join(i % 2 == 0);
        }
        x.accept();
        dueNumbered("a chain to the right", x, 6);
    }

    private static void dueNumbered(String name, SigmaDesk x, int leaves) {
        due(name + ", witness(-1)", x.witness(-1), BAD);
        for (int i = 0; i < leaves; i++) {
            due(name + ", tell(" + i + ", " + (i + 2) + ")", x.tell(i, i + 2), false);
            due(name + ", tell(" + i + ", " + (i + 1) + ")", x.tell(i, i + 1), true);
        }
        due(name + ", witness(" + leaves + ")", x.witness(leaves), BAD);
    }

    // "KNOWN: a leaf when its witness is told"
    private static void leafIsKnown() {
        SigmaDesk x = new SigmaDesk();
        x.leaf(4, 1);
        x.accept();
        due("a leaf, not told", x.known(), false);
        x.tell(0, 1);
        due("a leaf, told wrongly", x.known(), false);
        x.tell(0, 0);
        due("a leaf, told", x.known(), true);
        x.tell(0, 1);
        due("a leaf, told and then told wrongly", x.known(), true);
    }

    // "an AND when both sides are known"
    private static void andIsKnown() {
        for (int told = 0; told < 4; told++) {
            SigmaDesk x = two(true);
            due("AND, tell left", x.tell(0, (told & 1) != 0 ? 7 : 8), (told & 1) != 0);
            due("AND, tell right", x.tell(1, (told & 2) != 0 ? 11 : 12), (told & 2) != 0);
            due("AND, told " + told, x.known(), told == 3);
        }
        for (int missing = 0; missing < 8; missing++) {
            SigmaDesk x = new SigmaDesk();
            stackChain(x, 8, true);
            x.accept();
            for (int i = 0; i < 8; i++) {
                x.tell(i, i == missing ? 0 : i + 1);
            }
            due("AND of eight, " + missing + " missing", x.known(), false);
            x.tell(missing, missing + 1);
            due("AND of eight, none missing", x.known(), true);
        }
    }

    // "an OR when at least one is"
    private static void orIsKnown() {
        for (int told = 0; told < 4; told++) {
            SigmaDesk x = two(false);
            x.tell(0, (told & 1) != 0 ? 7 : 8);
            x.tell(1, (told & 2) != 0 ? 11 : 12);
            due("OR, told " + told, x.known(), told != 0);
        }
        for (int only = 0; only < 8; only++) {
            SigmaDesk x = new SigmaDesk();
            stackChain(x, 8, false);
            x.accept();
            due("OR of eight, none told", x.known(), false);
            x.tell(only, only + 1);
            due("OR of eight, only " + only, x.known(), true);
            due("OR of eight, commit", x.commit(only), 0);
            due("OR of eight, respond", x.respond(only), 0);
            due("OR of eight, verify", x.verify(), true);
        }
    }

    // "At first all of them are 0."
    private static void transcriptAtFirst() {
        SigmaDesk x = three(true, false);
        dueParts("at first", x, 0, 0, BAD, 0, 0);
        dueParts("at first", x, 1, 0, BAD, 0, 0);
        dueParts("at first", x, 2, 0, 0, 0, 0);
        due("at first, challenge()", x.challenge(), 0);
        due("at first, verify()", x.verify(), false);
        due("at first, hash()", x.hash(),
            hashOf(4, 4, 0, 9, 81, 0, 16, 4096, 0, 25, pow(25, 3), 0));
    }

    // "The challenge OF A STATEMENT in it: of a leaf, its challenge"
    private static void challengeOfLeaf() {
        SigmaDesk x = single();
        for (int c : new int[] {0, 1, 5001, 5002}) {
            x.change(0, 2, c);
            due("challenge of a leaf", x.challenge(), c);
        }
    }

    // "of an OR, the sum of those of its sides", exponents being modulo Q
    private static void challengeOfOr() {
        SigmaDesk x = two(false);
        int[][] sums = {{0, 0, 0}, {0, 5002, 5002}, {5002, 0, 5002}, {1, 5001, 5002}, {1, 5002, 0},
            {2, 5002, 1}, {5002, 1, 0}, {2501, 2501, 5002}, {2502, 2501, 0}, {5002, 5002, 5001}};
        for (int[] sum : sums) {
            x.change(0, 2, sum[0]);
            x.change(1, 2, sum[1]);
            due("challenge " + sum[0] + " + " + sum[1], x.challenge(), sum[2]);
        }
        // Eight leaves of 5002 each, which is -1.
        x = new SigmaDesk();
        stackChain(x, 8, false);
        x.accept();
        for (int i = 0; i < 8; i++) {
            x.change(i, 2, 5002);
            due("challenge of " + (i + 1) + " times 5002", x.challenge(), Q - 1 - i);
        }
    }

    // "of an AND, that of its left side, if its right side has the same, otherwise none"
    private static void challengeOfAnd() {
        SigmaDesk x = two(true);
        for (int c : new int[] {0, 1, 2500, 5002}) {
            x.change(0, 2, c);
            x.change(1, 2, c);
            due("AND of the same " + c, x.challenge(), c);
            x.change(1, 2, c == 5002 ? 0 : c + 1);
            due("AND of " + c + " and the next", x.challenge(), ORDER);
            x.change(1, 2, c == 0 ? 5002 : c - 1);
            due("AND of " + c + " and the one before", x.challenge(), ORDER);
        }
        // The same after the sum of a side has gone round.
        x = three(false, true);
        x.change(0, 2, 5002);
        x.change(1, 2, 1);
        due("AND of 5002 + 1 and 0", x.challenge(), 0);
        x.change(2, 2, 1);
        due("AND of 5002 + 1 and 1", x.challenge(), ORDER);
    }

    // "an AND or OR of which a side has none has none"
    private static void challengeWithASideOfNone() {
        for (int kind = 0; kind < 2; kind++) {
            boolean all = kind == 0;
            for (int sides = 0; sides < 4; sides++) {
                SigmaDesk x = new SigmaDesk();
                stackChain(x, 2, true);
                stackChain(x, 2, true);
                x.join(all);
                stackChain(x, 1, true);
                x.join(false);
                x.accept();
                x.change(0, 2, sides & 1);
                x.change(2, 2, sides >> 1);
                String name = (all ? "AND" : "OR") + ", sides without a challenge: " + sides;
                due(name, x.challenge(), sides == 0 ? 0 : ORDER);
                // The side that has one has 9, not 0.
                int with = sides == 1 ? 2 : 0;
                x.change(with, 2, 9);
                x.change(with + 1, 2, 9);
                due(name + ", 9 on the other", x.challenge(), sides == 0 && !all ? 9 : ORDER);
                x.change(with, 2, sides == 3 ? 1 : 0);
                x.change(with + 1, 2, 0);
                // Neither the sum with -1 nor any other number gives it one again.
                for (int c : new int[] {1, 2, 5002}) {
                    x.change(4, 2, c);
                    due(name + " beside " + c, x.challenge(), sides == 0 ? c : ORDER);
                }
            }
        }
    }

    // "A leaf ACCEPTS when for each of its pairs b^response is the commitment times y^challenge."
    private static void leafAcceptsForEachPair() {
        SigmaDesk x = new SigmaDesk();
        x.equal(4, pow(4, 3), 9, pow(9, 4));
        x.accept();
        for (int c : new int[] {0, 1, 2500, 5002}) {
            x.simulate(c, 77);
            int first = x.part(0, 0);
            int second = x.part(0, 1);
            due("both pairs", x.verify(), true);
            x.change(0, 0, product(first, 4));
            due("not the first pair", x.verify(), false);
            x.change(0, 1, product(second, 4));
            due("no pair", x.verify(), false);
            x.change(0, 0, first);
            due("not the second pair", x.verify(), false);
            x.change(0, 1, second);
            due("both pairs again", x.verify(), true);
        }
        for (int leaf = 0; leaf < 8; leaf++) {
            x = new SigmaDesk();
            stackChain(x, 8, leaf % 2 == 0);
            x.accept();
            x.simulate(4999, leaf);
            due("eight leaves", x.verify(), true);
            x.change(leaf, 3, (x.part(leaf, 3) + 1) % Q);
            due("seven leaves, not " + leaf, x.verify(), false);
        }
    }

    // "The transcript is ACCEPTED when all leaves accept and the tree has a challenge."
    private static void transcriptIsAccepted() {
        for (int kind = 0; kind < 2; kind++) {
            boolean all = kind == 0;
            SigmaDesk x = two(all);
            // Commitments b^r times y^-c for challenges 10 and 11: both leaves accept.
            acceptingLeaf(x, 0, 4, pow(4, 7), 10, 100);
            acceptingLeaf(x, 1, 9, pow(9, 11), 11, 200);
            due("challenges 10 and 11, all: " + all, x.verify(), !all);
            acceptingLeaf(x, 1, 9, pow(9, 11), 10, 200);
            due("challenges 10 and 10, all: " + all, x.verify(), true);
            x.change(1, 3, 201);
            due("a leaf that does not accept, all: " + all, x.verify(), false);
            due("it has a challenge", x.challenge(), all ? 10 : 20);
        }
    }

    private static void acceptingLeaf(SigmaDesk x, int leaf, int b, int y, int c, int response) {
        x.change(leaf, 0, simulated(b, y, c, response));
        x.change(leaf, 2, c);
        x.change(leaf, 3, response);
    }

    private static int drawnWith(int seed) {
        SigmaDesk x = single();
        x.simulate(0, seed);
        return x.part(0, 3);
    }

    // "it becomes itself times 1103515245 plus 12345, wrapping"
    private static void drawingWraps() {
        // 12345 / 256 = 48; (1103515245 + 12345) / 256 = 4310654, of which 861 times 5003 go.
        due("drawn with 0", drawnWith(0), 48);
        due("drawn with 1", drawnWith(1), 4310654 % Q);
        // 2 * 1103515245 + 12345 = 2207042835 is above 2^31 - 1, 4 times it above 2^32.
        due("drawn with 2", drawnWith(2), (int) (2207042835L / 256 % Q));
        due("drawn with 4", drawnWith(4), (int) ((4414073325L - 4294967296L) / 256 % Q));
        // -1103515245 + 12345 is 3191464396 above -2^32.
        due("drawn with -1", drawnWith(-1), (int) (3191464396L / 256 % Q));
        for (int seed : EDGE_SEEDS) {
            seed(seed);
            due("drawn with " + seed, drawnWith(seed), draw());
        }
        // A draw goes on from the state of the one before, which wraps as well.
        for (int seed : EDGE_SEEDS) {
            SigmaDesk x = new SigmaDesk();
            stackChain(x, 8, true);
            x.accept();
            x.simulate(1, seed);
            seed(seed);
            for (int i = 0; i < 8; i++) {
                due("draw " + i + " with " + seed, x.part(i, 3), draw());
            }
        }
    }

    // "the exponent drawn is the state without its lowest 8 bits (the rest as a number from 0 to 2^24 - 1)"
    private static void drawingWithoutLowestBits() {
        int[] states = {0, 255, 256, 511, 512, -1, -256, -257, Integer.MAX_VALUE, Integer.MIN_VALUE};
        int[] rests = {0, 0, 1, 1, 2, 16777215, 16777215, 16777214, 8388607, 8388608};
        for (int i = 0; i < states.length; i++) {
            due("drawn from the state " + states[i], drawnWith(seedBefore(states[i])), rests[i] % Q);
        }
    }

    // "modulo Q"
    private static void drawingModuloQ() {
        int[] rests = {5001, 5002, 5003, 5004, 10005, 10006, 3353 * Q - 1, 3353 * Q};
        int[] drawn = {5001, 5002, 0, 1, 5002, 0, 5002, 0};
        for (int i = 0; i < rests.length; i++) {
            due("drawn from " + rests[i], drawnWith(seedBefore(rests[i] << 8)), drawn[i]);
        }
    }

    // "a leaf, real: .. each commitment is b^nonce; its challenge and response become 0"
    private static void realLeaf() {
        for (int nonce : new int[] {0, 1, 5002}) {
            SigmaDesk x = new SigmaDesk();
            x.equal(4, pow(4, 3), 9, pow(9, 3));
            x.accept();
            x.tell(0, 3);
            x.change(0, 2, 5002);
            x.change(0, 3, 5002);
            due("commit", x.commit(seedDrawing(nonce)), 0);
            dueParts("nonce " + nonce, x, 0, pow(4, nonce), pow(9, nonce), 0, 0);
            due("not accepted before it responds, but with nonce 0", x.verify(), nonce == 0);
            x.respond(0);
            due("accepted with the challenge 0", x.verify(), true);
        }
    }

    // "A leaf, simulated: .. each commitment is b^response times y^(Q - c)."
    private static void simulatedLeaf() {
        for (int response : new int[] {0, 1, 5002}) {
            SigmaDesk x = new SigmaDesk();
            x.equal(4, pow(4, 3), 9, pow(9, 4));
            x.accept();
            x.simulate(0, seedDrawing(response));
            dueParts("c = 0", x, 0, pow(4, response), pow(9, response), 0, response);
            x.simulate(5002, seedDrawing(response));
            dueParts("c = 5002", x, 0, product(pow(4, response), pow(4, 3)),
                product(pow(9, response), pow(9, 4)), 5002, response);
            x.simulate(1, seedDrawing(response));
            dueParts("c = 1", x, 0, pow(4, modQ(response - 3)), pow(9, modQ(response - 4)), 1, response);
            due("accepted", x.verify(), true);
        }
        // A leaf of 1, whose witness is 0.
        SigmaDesk x = new SigmaDesk();
        x.leaf(4, 1);
        x.accept();
        x.simulate(5002, seedDrawing(0));
        dueParts("of 1", x, 0, 1, BAD, 5002, 0);
    }

    // "an AND, real: the left side, then the right side are committed, real. Simulated: likewise"
    private static void committedAnd() {
        SigmaDesk x = two(true);
        x.tell(0, 7);
        x.tell(1, 11);
        x.commit(9);
        seed(9);
        dueParts("AND, real, left", x, 0, pow(4, draw()), BAD, 0, 0);
        dueParts("AND, real, right", x, 1, pow(9, draw()), BAD, 0, 0);
        for (int c : new int[] {0, 5002}) {
            x.simulate(c, 9);
            seed(9);
            int r = draw();
            dueParts("AND, simulated, left", x, 0, simulated(4, pow(4, 7), c, r), BAD, c, r);
            r = draw();
            dueParts("AND, simulated, right", x, 1, simulated(9, pow(9, 11), c, r), BAD, c, r);
        }
    }

    // "an OR, real: its REAL SIDE is the left one if that is known, otherwise the right one"
    private static void realSideOfOr() {
        int d = 1234;
        for (int told = 1; told < 4; told++) {
            SigmaDesk x = two(false);
            x.tell(0, (told & 1) != 0 ? 7 : 8);
            x.tell(1, (told & 2) != 0 ? 11 : 12);
            x.commit(seedDrawing(d));
            boolean left = (told & 1) != 0;
            due("told " + told + ", left challenge", x.part(0, 2), left ? 0 : d);
            due("told " + told + ", right challenge", x.part(1, 2), left ? d : 0);
        }
        // A left side of which only a part is told is not known: an AND of two, then an OR of two.
        SigmaDesk x = three(true, false);
        x.tell(0, 1);
        x.tell(2, 3);
        x.commit(seedDrawing(d));
        due("half an AND", x.part(0, 2), d);
        due("half an AND", x.part(1, 2), d);
        due("half an AND", x.part(2, 2), 0);
        x.tell(1, 2);
        x.commit(seedDrawing(d));
        due("a whole AND", x.part(0, 2), 0);
        due("a whole AND", x.part(2, 2), d);
        x = three(false, false);
        x.tell(1, 2);
        x.tell(2, 3);
        x.commit(seedDrawing(d));
        due("half an OR", x.part(1, 2), 0);
        due("half an OR", x.part(2, 2), d);
    }

    // "a challenge is drawn for the other side, which is simulated with it; the left side is
    // committed before the right one"
    private static void drawnForTheOtherSide() {
        for (int d : new int[] {0, 1, 5002}) {
            for (int real = 0; real < 2; real++) {
                SigmaDesk x = two(false);
                x.tell(real, real == 0 ? 7 : 11);
                x.commit(seedDrawing(d));
                seed(seedDrawing(d));
                due("drawn first", draw(), d);
                int left = draw();
                int right = draw();
                if (real == 0) {
                    dueParts("real left", x, 0, pow(4, left), BAD, 0, 0);
                    dueParts("real left", x, 1, simulated(9, pow(9, 11), d, right), BAD, d, right);
                } else {
                    dueParts("real right", x, 0, simulated(4, pow(4, 7), d, left), BAD, d, left);
                    dueParts("real right", x, 1, pow(9, right), BAD, 0, 0);
                }
            }
        }
    }

    // "Simulated: a challenge d is drawn; the left side is simulated with d, then the right one with c - d."
    private static void simulatedOr() {
        int[][] rows = {{0, 0, 0}, {0, 1, 5002}, {0, 5002, 1}, {1, 1, 0}, {1, 2, 5002}, {2, 1, 1},
            {5002, 0, 5002}, {5002, 5002, 0}, {5001, 5002, 5002}, {5002, 1, 5001}};
        for (int[] row : rows) {
            int c = row[0];
            int d = row[1];
            SigmaDesk x = two(false);
            x.simulate(c, seedDrawing(d));
            seed(seedDrawing(d));
            draw();
            int r = draw();
            dueParts(c + " with " + d, x, 0, simulated(4, pow(4, 7), d, r), BAD, d, r);
            r = draw();
            dueParts(c + " with " + d, x, 1, simulated(9, pow(9, 11), row[2], r), BAD, row[2], r);
            due(c + " with " + d + ", challenge()", x.challenge(), c);
            due(c + " with " + d + ", verify()", x.verify(), true);
        }
    }

    // "a leaf: its challenge becomes c, its response nonce + c times witness"
    private static void respondingLeaf() {
        int[][] rows = {{0, 0, 0, 0}, {5002, 0, 5002, 5002}, {0, 5002, 1, 5002}, {1, 5002, 1, 0},
            {0, 5002, 5002, 1}, {5002, 5002, 5002, 0}, {5001, 5002, 5002, 5002}, {3, 7, 715, 5},
            {4998, 1, 4, 5002}, {4998, 1, 5, 0}};
        for (int[] row : rows) {
            SigmaDesk x = new SigmaDesk();
            x.leaf(9, pow(9, row[1]));
            x.accept();
            due("tell " + row[1], x.tell(0, row[1]), true);
            x.commit(seedDrawing(row[0]));
            due("respond " + row[2], x.respond(row[2]), 0);
            String name = row[0] + " + " + row[2] + " * " + row[1];
            dueParts(name, x, 0, pow(9, row[0]), BAD, row[2], row[3]);
            due(name + ", verify()", x.verify(), true);
        }
    }

    // "An AND: both sides respond to c."
    private static void respondingAnd() {
        SigmaDesk x = two(true);
        x.tell(0, 7);
        x.tell(1, 11);
        x.commit(1);
        for (int c : new int[] {0, 5002}) {
            x.respond(c);
            due("AND, left", x.part(0, 2), c);
            due("AND, right", x.part(1, 2), c);
            due("AND, verify()", x.verify(), true);
        }
    }

    // "An OR: its real side responds to c less the challenge that was drawn for the other side."
    private static void respondingOr() {
        int[][] rows = {{0, 0, 0}, {0, 1, 5002}, {0, 5002, 1}, {1, 1, 0}, {1, 2, 5002},
            {5002, 0, 5002}, {5002, 5002, 0}, {5001, 5002, 5002}, {5002, 5001, 1}};
        for (int[] row : rows) {
            for (int real = 0; real < 2; real++) {
                SigmaDesk x = two(false);
                x.tell(real, real == 0 ? 7 : 11);
                x.commit(seedDrawing(row[1]));
                x.respond(row[0]);
                String name = row[0] + " less " + row[1];
                due(name + ", real", x.part(real, 2), row[2]);
                due(name + ", other", x.part(1 - real, 2), row[1]);
                due(name + ", challenge()", x.challenge(), row[0]);
                due(name + ", verify()", x.verify(), true);
            }
        }
        respondingOrAfterOtherCalls();
    }

    /** What was drawn, and which side is the real one, is settled when it is committed. */
    private static void respondingOrAfterOtherCalls() {
        SigmaDesk x = two(false);
        x.tell(1, 11);
        x.commit(seedDrawing(100));
        x.change(0, 2, 200);
        x.respond(50);
        due("50 less 100, another challenge standing there", x.part(1, 2), Q - 50);
        due("50 less 100, it stays there", x.part(0, 2), 200);
        x.change(0, 2, 100);
        x.tell(0, 7);
        x.respond(150);
        due("150 less 100, the left side told since", x.part(1, 2), 50);
        due("150 less 100, the left side told since", x.part(0, 2), 100);
        due("150 less 100, verify()", x.verify(), true);
        x.commit(seedDrawing(100));
        x.respond(150);
        due("150 less 100, committed with the left side", x.part(0, 2), 50);
        due("150 less 100, committed with the left side", x.part(1, 2), 100);
    }

    // "h is 17; for each leaf in order, for each of its pairs: h becomes 31 h + b, 31 h + y, 31 h + the
    // commitment"
    private static void hashStartsAt17() {
        SigmaDesk x = new SigmaDesk();
        x.leaf(2, 1);
        x.accept();
        // ((17 * 31 + 2) * 31 + 1) * 31 + 0 = 508400, of which 101 times 5003 go.
        due("hash of 2, 1, 0", x.hash(), 508400 % Q);
        x.change(0, 0, 1);
        due("hash of 2, 1, 1", x.hash(), 508401 % Q);
        x.change(0, 0, 10006);
        due("hash of 2, 1, 10006", x.hash(), 518406 % Q);
    }

    // "wrapping"
    private static void hashWraps() {
        for (int leaves = 1; leaves <= 8; leaves++) {
            SigmaDesk x = new SigmaDesk();
            stackChain(x, leaves, true);
            x.accept();
            int[] mixed = new int[3 * leaves];
            for (int i = 0; i < leaves; i++) {
                x.change(i, 0, 10006 - i);
                mixed[3 * i] = 4;
                mixed[3 * i + 1] = pow(4, i + 1);
                mixed[3 * i + 2] = 10006 - i;
            }
            due("hash of " + leaves + " leaves", x.hash(), hashOf(mixed));
        }
    }

    // "the hash is h without its sign bit (0 .. 2^31 - 1)"
    private static void hashWithoutSignBit() {
        dueHashAt(0, 0);
        dueHashAt(-1, Integer.MAX_VALUE % Q);
        dueHashAt(Integer.MAX_VALUE, Integer.MAX_VALUE % Q);
        dueHashAt(Integer.MIN_VALUE, 0);
        dueHashAt(Integer.MIN_VALUE + 1, 1);
        dueHashAt(Integer.MIN_VALUE + 5002, 5002);
        dueHashAt(Integer.MIN_VALUE + 5003, 0);
    }

    /** A statement and commitments are sought with which h is the given number. */
    private static void dueHashAt(int h, int want) {
        for (int x = 0; x < 200 * 50; x++) {
            int y = pow(4, x % 200);
            int w = pow(9, x / 200);
            for (int first = 0; first < P; first++) {
                int before = ((17 * 31 + 4) * 31 + y) * 31 + first;
                int second = h - ((before * 31 + 9) * 31 + w) * 31;
                if (second >= 0 && second < P) {
                    SigmaDesk desk = new SigmaDesk();
                    desk.equal(4, y, 9, w);
                    desk.accept();
                    desk.change(0, 0, first);
                    desk.change(0, 1, second);
                    due("hash with h = " + h, desk.hash(), want);
                    return;
                }
            }
        }
        due("commitments with h = " + h + " found", false, true);
    }

    // "modulo Q"
    private static void hashModuloQ() {
        SigmaDesk x = new SigmaDesk();
        x.leaf(2, 1);
        x.accept();
        // 508400 = 101 * 5003 + 3097
        int[][] rows = {{1904, 5001}, {1905, 5002}, {1906, 0}, {1907, 1}, {6908, 5002}, {6909, 0}};
        for (int[] row : rows) {
            x.change(0, 0, row[0]);
            due("hash with the commitment " + row[0], x.hash(), row[1]);
        }
    }

    // "Answers: the first of these that is said at a call and holds: NONE when there is no tree, BAD when
    // an argument is not as said"
    private static void noneBeforeBad() {
        SigmaDesk x = new SigmaDesk();
        SigmaDesk y = single();
        for (int leaf : NO_LEAVES) {
            due("witness(" + leaf + ") without a tree", x.witness(leaf), NONE);
            due("witness(" + leaf + ") with one", y.witness(leaf), BAD);
            due("part(" + leaf + ", 0) without a tree", x.part(leaf, 0), NONE);
            due("part(" + leaf + ", 0) with one", y.part(leaf, 0), BAD);
        }
        for (int what : NO_PARTS) {
            due("part(0, " + what + ") without a tree", x.part(0, what), NONE);
            due("part(0, " + what + ") with one", y.part(0, what), BAD);
        }
        for (int c : NO_EXPONENTS) {
            due("respond(" + c + ") without a tree", x.respond(c), NONE);
            due("respond(" + c + ") with one", y.respond(c), BAD);
            due("simulate(" + c + ", 1) without a tree", x.simulate(c, 1), NONE);
            due("simulate(" + c + ", 1) with one", y.simulate(c, 1), BAD);
        }
        // At power and accept no NONE is said.
        due("power(5, 1) without a tree", x.power(5, 1), BAD);
        due("accept() without a tree", x.accept(), BAD);
    }

    // ".. BAD when an argument is not as said, UNKNOWN and ORDER as said"
    private static void badBeforeOrder() {
        SigmaDesk x = two(true);
        for (int c : NO_EXPONENTS) {
            due("respond(" + c + ") before commit()", x.respond(c), BAD);
        }
        due("respond(0) before commit()", x.respond(0), ORDER);
        due("respond(5002) before commit()", x.respond(5002), ORDER);
        due("witness(2), not told", x.witness(2), BAD);
        due("witness(1), not told", x.witness(1), UNKNOWN);
    }
}
