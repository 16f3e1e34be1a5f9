/**
 * The boundary cases that the promises name: a method for each sentence, which is told above it, with
 * calls on both sides of the boundary. That a refused call changes nothing is RefusedCallsTest's.
 */
public final class EdgesOfPromisesTest extends Check {
    private static final int[] SIDES = {8, 1, 1, 8, 5, 4, 4, 5, 7, 2, 2, 7, 8, 8};

    public static void main(String[] args) {
        newObject();
        powerOfNoElement();
        powerToNoExponent();
        leafOfNoBase();
        leafOfNoElement();
        leafOnSix();
        equalOfNoBase();
        equalOfNoElement();
        equalOnSix();
        joinOfNotTwo();
        joinTheTopmostOnTheRight();
        joinToEightLeaves();
        joinToMoreThanEight();
        discardOfNone();
        discardTheTopmost();
        acceptOfNoneOrMore();
        acceptAnswersHowManyLeaves();
        acceptTellsNothing();
        acceptTranscriptAsAtFirst();
        acceptNothingCommitted();
        acceptNothingSaved();
        tellNoLeaf();
        tellNoExponent();
        tellNotTheWitness();
        witnessOfNoLeaf();
        witnessNotTold();
        knownWithoutTree();
        commitNotKnown();
        commitSeeds();
        respondToNoExponent();
        respondNotCommitted();
        respondSimulatedSince();
        respondAgainAndAgain();
        simulateWithNoExponent();
        simulateWhatIsNotKnown();
        proveNotKnown();
        proveAsCommitAndRespond();
        hashWithoutTree();
        verifyWithoutTree();
        challengeOrNone();
        partOfNoLeaf();
        partOfNoSuchKind();
        partOfTheSecondPair();
        changeOfNoneSuch();
        changeOfCommitments();
        changeOfExponents();
        saveWithoutTree();
        saveAsItIsNow();
        extractNothingSaved();
        extractSavedNotAccepted();
        extractPresentNotAccepted();
        extractOtherCommitments();
        extractHowMany();
        extractTwoPairs();
        extractDivides();
        finish();
    }

    // 1: "The stack is empty, there is no tree."
    private static void newObject() {
        SigmaDesk x = new SigmaDesk();
        due("1 discard()", x.discard(), false);
        due("1 join(true)", x.join(true), false);
        due("1 join(false)", x.join(false), false);
        due("1 accept()", x.accept(), BAD);
        due("1 hash()", x.hash(), NONE);
        x.leaf(4, 4);
        due("1 one statement: join", x.join(true), false);
        due("1 one statement: accept()", x.accept(), 1);
        due("1 a tree: hash()", x.hash(), hashOf(4, 4, 0));
        due("1 another object has none", new SigmaDesk().hash(), NONE);
        due("1 another object has an empty stack", new SigmaDesk().discard(), false);
    }

    // 2: "BAD when b is no element"
    private static void powerOfNoElement() {
        SigmaDesk x = new SigmaDesk();
        for (int b : NO_ELEMENTS) {
            due("2 power(" + b + ", 0)", x.power(b, 0), BAD);
            due("2 power(" + b + ", 2)", x.power(b, 2), BAD);
        }
        due("2 power(1, 2)", x.power(1, 2), 1);
        due("2 power(4, 2)", x.power(4, 2), 16);
        due("2 power(10002, 2)", x.power(10002, 2), 25);
    }

    // 2: "or e is not 0 .. 5002"
    private static void powerToNoExponent() {
        SigmaDesk x = new SigmaDesk();
        for (int b : new int[] {1, 4, 10002}) {
            for (int e : NO_EXPONENTS) {
                due("2 power(" + b + ", " + e + ")", x.power(b, e), BAD);
            }
            due("2 power(" + b + ", 0)", x.power(b, 0), 1);
            due("2 power(" + b + ", 1)", x.power(b, 1), b);
            due("2 power(" + b + ", 5001)", x.power(b, 5001), pow(b, 5001));
            // The inverse: b^5003 is 1.
            due("2 power(" + b + ", 5002)", product(x.power(b, 5002), b), 1);
        }
    }

    // 3: "false when b is no base"
    private static void leafOfNoBase() {
        for (int b : NO_ELEMENTS) {
            SigmaDesk x = new SigmaDesk();
            due("3 leaf(" + b + ", 4)", x.leaf(b, 4), false);
            due("3 nothing is put", x.discard(), false);
        }
        SigmaDesk x = new SigmaDesk();
        due("3 leaf(1, 4)", x.leaf(1, 4), false);
        due("3 leaf(1, 1)", x.leaf(1, 1), false);
        due("3 nothing is put", x.discard(), false);
        due("3 leaf(2, 4)", x.leaf(2, 4), true);
        due("3 leaf(10002, 4)", x.leaf(10002, 4), true);
    }

    // 3: "y no element"
    private static void leafOfNoElement() {
        for (int y : NO_ELEMENTS) {
            SigmaDesk x = new SigmaDesk();
            due("3 leaf(4, " + y + ")", x.leaf(4, y), false);
            due("3 nothing is put", x.discard(), false);
        }
        for (int y : new int[] {1, 2, 4, 10002}) {
            SigmaDesk x = new SigmaDesk();
            due("3 leaf(4, " + y + ")", x.leaf(4, y), true);
            due("3 one is put", x.accept(), 1);
        }
    }

    // 3: "or the stack has 6"
    private static void leafOnSix() {
        for (int height = 0; height <= 6; height++) {
            SigmaDesk x = new SigmaDesk();
            for (int i = 0; i < height; i++) {
                x.equal(4, 4, 9, 9);
            }
            due("3 leaf(4, 4) on " + height, x.leaf(4, 4), height < 6);
            due("3 statements on the stack", countStack(x), Math.min(height + 1, 6));
        }
    }

    private static int countStack(SigmaDesk x) {
        int count = 0;
        while (count < 20 && x.discard()) {
            count++;
        }
        return count;
    }

    // 4: "false when one of b and d is no base"
    private static void equalOfNoBase() {
        SigmaDesk x = new SigmaDesk();
        for (int n : NO_ELEMENTS) {
            due("4 equal(" + n + ", 4, 9, 9)", x.equal(n, 4, 9, 9), false);
            due("4 equal(4, 4, " + n + ", 9)", x.equal(4, 4, n, 9), false);
        }
        due("4 equal(1, 1, 9, 9)", x.equal(1, 1, 9, 9), false);
        due("4 equal(4, 4, 1, 1)", x.equal(4, 4, 1, 1), false);
        due("4 equal(1, 1, 1, 1)", x.equal(1, 1, 1, 1), false);
        due("4 nothing is put", x.discard(), false);
        due("4 equal(2, 4, 9, 9)", x.equal(2, 4, 9, 9), true);
        due("4 equal(4, 4, 10002, 9)", x.equal(4, 4, 10002, 9), true);
        due("4 equal(4, 4, 4, 4)", x.equal(4, 4, 4, 4), true);
    }

    // 4: "one of y and w (of b and d) no element"
    private static void equalOfNoElement() {
        SigmaDesk x = new SigmaDesk();
        for (int n : NO_ELEMENTS) {
            due("4 equal(4, " + n + ", 9, 9)", x.equal(4, n, 9, 9), false);
            due("4 equal(4, 4, 9, " + n + ")", x.equal(4, 4, 9, n), false);
        }
        due("4 nothing is put", x.discard(), false);
        due("4 equal(4, 1, 9, 1)", x.equal(4, 1, 9, 1), true);
        due("4 equal(4, 10002, 9, 10002)", x.equal(4, 10002, 9, 10002), true);
        due("4 two are put", countStack(x), 2);
    }

    // 4: "or the stack has 6"
    private static void equalOnSix() {
        for (int height = 0; height <= 6; height++) {
            SigmaDesk x = new SigmaDesk();
            for (int i = 0; i < height; i++) {
                x.leaf(4, 4);
            }
            due("4 equal(4, 4, 9, 9) on " + height, x.equal(4, 4, 9, 9), height < 6);
            due("4 statements on the stack", countStack(x), Math.min(height + 1, 6));
        }
    }

    // 5: "false when there are not two"
    private static void joinOfNotTwo() {
        for (int height = 0; height <= 6; height++) {
            for (int kind = 0; kind < 2; kind++) {
                SigmaDesk x = new SigmaDesk();
                for (int i = 0; i < height; i++) {
                    x.leaf(4, 4);
                }
                due("5 join of " + height, x.join(kind == 0), height >= 2);
                due("5 statements on the stack", countStack(x), height >= 2 ? height - 1 : height);
            }
        }
        // A tree is no statement of the stack.
        SigmaDesk x = single();
        x.leaf(4, 4);
        due("5 join with a tree", x.join(true), false);
    }

    // 5: "The two topmost statements are replaced by their AND (all true) or OR, the topmost one on its
    // right"
    private static void joinTheTopmostOnTheRight() {
        for (int kind = 0; kind < 2; kind++) {
            boolean all = kind == 0;
            SigmaDesk x = new SigmaDesk();
            x.leaf(4, pow(4, 1));
            x.leaf(4, pow(4, 2));
            x.leaf(4, pow(4, 3));
            x.join(all);
            x.join(!all);
            due("5 accept()", x.accept(), 3);
            for (int i = 0; i < 3; i++) {
                due("5 tell(" + i + ")", x.tell(i, i + 1), true);
            }
            // Which is AND and which is OR shows in the challenges: 1 | (2 & 3) or 1 & (2 | 3).
            x.change(0, 2, 10);
            x.change(1, 2, 5);
            x.change(2, 2, 5);
            due("5 challenge(), all: " + all, x.challenge(), all ? 15 : 10);
        }
    }

    // 5: "or it would have more than 8 leaves": 8 are not more
    private static void joinToEightLeaves() {
        for (int left = 1; left <= 7; left++) {
            for (int kind = 0; kind < 2; kind++) {
                SigmaDesk x = new SigmaDesk();
                stackChain(x, left, true);
                stackChain(x, 8 - left, false);
                due("5 join of " + left + " and " + (8 - left), x.join(kind == 0), true);
                due("5 accept()", x.accept(), 8);
            }
        }
    }

    // 5: "or it would have more than 8 leaves"
    private static void joinToMoreThanEight() {
        for (int i = 0; i < SIDES.length; i += 2) {
            for (int kind = 0; kind < 2; kind++) {
                SigmaDesk x = new SigmaDesk();
                stackChain(x, SIDES[i], true);
                stackChain(x, SIDES[i + 1], false);
                String name = "5 join of " + SIDES[i] + " and " + SIDES[i + 1];
                due(name, x.join(kind == 0), false);
                due(name + ": both stay", x.accept(), BAD);
                due(name + ": the right one goes", x.discard(), true);
                due(name + ": the left one is left", x.accept(), SIDES[i]);
            }
        }
        // Only the two topmost count, not what is below them.
        SigmaDesk x = new SigmaDesk();
        stackChain(x, 8, true);
        stackChain(x, 4, true);
        stackChain(x, 4, true);
        due("5 join of 4 and 4 above 8", x.join(true), true);
        due("5 join of 8 and 8", x.join(true), false);
        // Two pairs are one leaf.
        x = new SigmaDesk();
        x.equal(4, 4, 9, 9);
        for (int i = 2; i <= 8; i++) {
            x.equal(4, 4, 9, 9);
            due("5 join of equals to " + i, x.join(true), true);
        }
        x.equal(4, 4, 9, 9);
        due("5 join of equals to 9", x.join(true), false);
    }

    // 6: "false when there is none"
    private static void discardOfNone() {
        SigmaDesk x = new SigmaDesk();
        due("6 discard() of none", x.discard(), false);
        for (int height = 1; height <= 6; height++) {
            for (int i = 0; i < height; i++) {
                x.leaf(4, 4);
            }
            due("6 discard() of " + height, countStack(x), height);
            due("6 discard() of none again", x.discard(), false);
        }
        x = single();
        due("6 discard() with a tree", x.discard(), false);
        due("6 the tree stays", x.witness(0), 7);
    }

    // 6: "The topmost statement leaves the stack"
    private static void discardTheTopmost() {
        for (int keep = 1; keep <= 6; keep++) {
            SigmaDesk x = new SigmaDesk();
            for (int i = 1; i <= 6; i++) {
                x.leaf(4, pow(4, i));
            }
            for (int i = 6; i > keep; i--) {
                due("6 discard() of " + i, x.discard(), true);
            }
            for (int i = 1; i < keep; i++) {
                due("6 join", x.join(true), true);
            }
            due("6 accept()", x.accept(), keep);
            for (int i = 0; i < keep; i++) {
                due("6 tell(" + i + ")", x.tell(i, i + 1), true);
            }
        }
        SigmaDesk x = new SigmaDesk();
        stackChain(x, 8, true);
        due("6 a statement leaves whole", x.discard(), true);
        due("6 a statement leaves whole", x.discard(), false);
    }

    // 7: "BAD when the stack has none or more than one"
    private static void acceptOfNoneOrMore() {
        for (int height = 0; height <= 6; height++) {
            SigmaDesk x = new SigmaDesk();
            for (int i = 0; i < height; i++) {
                x.leaf(4, 4);
            }
            due("7 accept() of " + height, x.accept(), height == 1 ? 1 : BAD);
            due("7 known as a tree", x.save(), height == 1);
            due("7 left on the stack", countStack(x), height == 1 ? 0 : height);
        }
        SigmaDesk x = single();
        due("7 accept() again, of none", x.accept(), BAD);
        due("7 the tree stays", x.witness(0), 7);
    }

    // 7: "Answers how many leaves it has"
    private static void acceptAnswersHowManyLeaves() {
        for (int leaves = 1; leaves <= 8; leaves++) {
            SigmaDesk x = new SigmaDesk();
            stackChain(x, leaves, leaves % 2 == 0);
            due("7 accept()", x.accept(), leaves);
            due("7 the last leaf", x.witness(leaves - 1), UNKNOWN);
            due("7 no leaf after it", x.witness(leaves), BAD);
            x.equal(4, 4, 9, 9);
            due("7 accept() of a leaf with two pairs", x.accept(), 1);
            due("7 the last leaf", x.witness(0), UNKNOWN);
            due("7 no leaf after it", x.witness(1), BAD);
        }
    }

    // 7: "in place of one that was there: no witness is told"
    private static void acceptTellsNothing() {
        for (int leaves = 1; leaves <= 8; leaves++) {
            SigmaDesk x = new SigmaDesk();
            stackChain(x, leaves, true);
            x.accept();
            for (int i = 0; i < leaves; i++) {
                x.tell(i, i + 1);
            }
            due("7 known()", x.known(), true);
            stackChain(x, leaves, true);
            due("7 known() until accept()", x.known(), true);
            due("7 witness() until accept()", x.witness(leaves - 1), leaves);
            x.accept();
            due("7 known() after accept()", x.known(), false);
            for (int i = 0; i < leaves; i++) {
                due("7 witness(" + i + ") after accept()", x.witness(i), UNKNOWN);
            }
        }
    }

    // 7: "the transcript is as at first"
    private static void acceptTranscriptAsAtFirst() {
        SigmaDesk x = three(true, false);
        x.simulate(4444, 4);
        x.equal(25, 25, 16, 16);
        x.equal(9, 9, 4, 4);
        x.join(true);
        x.equal(4, 4, 9, 9);
        x.join(false);
        due("7 the old one until accept()", x.challenge(), 4444);
        x.accept();
        for (int i = 0; i < 3; i++) {
            dueParts("7 as at first", x, i, 0, 0, 0, 0);
        }
    }

    // 7: "nothing is committed"
    private static void acceptNothingCommitted() {
        SigmaDesk x = single();
        x.commit(1);
        x.leaf(4, pow(4, 7));
        due("7 respond() until accept()", x.respond(1), 0);
        x.accept();
        due("7 respond() after accept()", x.respond(1), ORDER);
        x.tell(0, 7);
        due("7 respond() after accept() and tell()", x.respond(1), ORDER);
        x.commit(1);
        due("7 respond() after commit()", x.respond(1), 0);
    }

    // 7: "and saved"
    private static void acceptNothingSaved() {
        SigmaDesk x = single();
        x.simulate(1, 1);
        x.save();
        x.leaf(4, pow(4, 7));
        due("7 extract() until accept()", x.extract(), 0);
        x.accept();
        x.simulate(1, 1);
        due("7 extract() after accept()", x.extract(), ORDER);
        x.save();
        due("7 extract() after save()", x.extract(), 0);
    }

    // 8: "false when there is no such leaf"
    private static void tellNoLeaf() {
        SigmaDesk x = new SigmaDesk();
        due("8 tell(0, 0) without a tree", x.tell(0, 0), false);
        x.leaf(4, 1);
        due("8 tell(0, 0) of a leaf on the stack", x.tell(0, 0), false);
        for (int leaves = 1; leaves <= 8; leaves++) {
            SigmaDesk y = new SigmaDesk();
            for (int i = 0; i < leaves; i++) {
                y.leaf(4, 1);
                y.join(true);
            }
            y.accept();
            for (int leaf : NO_LEAVES) {
                due("8 tell(" + leaf + ", 0) of " + leaves, y.tell(leaf, 0), false);
            }
            due("8 tell(n, 0) of " + leaves, y.tell(leaves, 0), false);
            due("8 not known", y.known(), false);
            for (int leaf = 0; leaf < leaves; leaf++) {
                due("8 tell(" + leaf + ", 0) of " + leaves, y.tell(leaf, 0), true);
            }
            due("8 known", y.known(), true);
        }
    }

    // 8: "or x is not 0 .. 5002"
    private static void tellNoExponent() {
        SigmaDesk x = new SigmaDesk();
        x.leaf(4, 1);
        x.leaf(4, pow(4, 5002));
        x.join(true);
        x.accept();
        // Q and -Q are like 0, and -1 and 2 Q - 1 like 5002, but no exponents.
        for (int e : NO_EXPONENTS) {
            due("8 tell(0, " + e + ")", x.tell(0, e), false);
            due("8 tell(1, " + e + ")", x.tell(1, e), false);
        }
        due("8 tell(1, 10005)", x.tell(1, 2 * Q - 1), false);
        due("8 not told", x.witness(0), UNKNOWN);
        due("8 not told", x.witness(1), UNKNOWN);
        due("8 tell(0, 0)", x.tell(0, 0), true);
        due("8 tell(1, 5002)", x.tell(1, 5002), true);
        due("8 told", x.witness(0), 0);
        due("8 told", x.witness(1), 5002);
    }

    // 8: "or not its witness"
    private static void tellNotTheWitness() {
        SigmaDesk x = single();
        for (int e = 0; e < Q; e++) {
            if (e % 400 == 0) {
                x = new SigmaDesk();
                x.leaf(4, pow(4, 2222));
                x.accept();
            }
            due("8 tell(0, " + e + ")", x.tell(0, e), e == 2222);
        }
        x = single();
        due("8 tell(0, 6) after tell(0, 7)", x.tell(0, 6), false);
        due("8 the witness stays", x.witness(0), 7);
        due("8 tell(0, 7) again", x.tell(0, 7), true);
        due("8 the witness stays", x.witness(0), 7);
    }

    // 9: "NONE when there is no tree; BAD when there is no such leaf"
    private static void witnessOfNoLeaf() {
        SigmaDesk x = new SigmaDesk();
        x.leaf(4, 4);
        due("9 witness(0) without a tree", x.witness(0), NONE);
        for (int leaves = 1; leaves <= 8; leaves++) {
            x = new SigmaDesk();
            stackChain(x, leaves, true);
            x.accept();
            for (int leaf : NO_LEAVES) {
                due("9 witness(" + leaf + ") of " + leaves, x.witness(leaf), BAD);
            }
            due("9 witness(n) of " + leaves, x.witness(leaves), BAD);
            due("9 witness(n - 1) of " + leaves, x.witness(leaves - 1), UNKNOWN);
            due("9 witness(0) of " + leaves, x.witness(0), UNKNOWN);
        }
    }

    // 9: "UNKNOWN when it is not told"
    private static void witnessNotTold() {
        for (int e : new int[] {0, 1, 5002}) {
            SigmaDesk x = new SigmaDesk();
            x.leaf(9, pow(9, e));
            x.leaf(9, pow(9, e));
            x.join(true);
            x.accept();
            due("9 witness(0), not told", x.witness(0), UNKNOWN);
            x.tell(0, e);
            due("9 witness(0), told", x.witness(0), e);
            due("9 witness(1), not told", x.witness(1), UNKNOWN);
        }
    }

    // 10: "Whether there is a tree and it is known."
    private static void knownWithoutTree() {
        SigmaDesk x = new SigmaDesk();
        due("10 known() without a tree", x.known(), false);
        x.leaf(4, 1);
        due("10 known() with a leaf on the stack", x.known(), false);
        x.accept();
        due("10 known(), not told", x.known(), false);
        x.tell(0, 0);
        due("10 known(), told", x.known(), true);
        x.leaf(4, 4);
        due("10 known() of the tree, not of the stack", x.known(), true);
    }

    // 11: "NONE; UNKNOWN when it is not known"
    private static void commitNotKnown() {
        SigmaDesk x = new SigmaDesk();
        x.leaf(4, 4);
        due("11 commit(1) without a tree", x.commit(1), NONE);
        x = two(true);
        due("11 commit(1), none told", x.commit(1), UNKNOWN);
        x.tell(1, 11);
        due("11 commit(1), one told of an AND", x.commit(1), UNKNOWN);
        x.tell(0, 7);
        due("11 commit(1), both told", x.commit(1), 0);
        x = two(false);
        due("11 commit(1), none told of an OR", x.commit(1), UNKNOWN);
        x.tell(1, 11);
        due("11 commit(1), one told of an OR", x.commit(1), 0);
    }

    // 11: "The state for drawing becomes seed": each int is one, and what was drawn before is forgotten
    private static void commitSeeds() {
        SigmaDesk x = single();
        for (int seed : EDGE_SEEDS) {
            seed(seed);
            int nonce = draw();
            for (int again = 0; again < 2; again++) {
                due("11 commit(" + seed + ")", x.commit(seed), 0);
                due("11 part(0, 0)", x.part(0, 0), pow(4, nonce));
            }
        }
    }

    // 12: "BAD when c is not 0 .. 5002"
    private static void respondToNoExponent() {
        SigmaDesk x = single();
        x.commit(1);
        for (int c : NO_EXPONENTS) {
            due("12 respond(" + c + ")", x.respond(c), BAD);
            due("12 the challenge stays", x.part(0, 2), 0);
        }
        for (int c : new int[] {0, 1, 5001, 5002}) {
            due("12 respond(" + c + ")", x.respond(c), 0);
            due("12 the challenge", x.part(0, 2), c);
        }
    }

    // 12: "ORDER when it was not committed by commit() since it became the tree"
    private static void respondNotCommitted() {
        SigmaDesk x = single();
        due("12 respond(0) before commit()", x.respond(0), ORDER);
        due("12 respond(5002) before commit()", x.respond(5002), ORDER);
        x.simulate(1, 1);
        due("12 respond(0) after simulate() alone", x.respond(0), ORDER);
        x.commit(1);
        due("12 respond(0) after commit()", x.respond(0), 0);
        x.leaf(4, pow(4, 7));
        due("12 respond(0) before another tree", x.respond(0), 0);
        x.accept();
        x.tell(0, 7);
        due("12 respond(0) to another tree", x.respond(0), ORDER);
        x = two(true);
        due("12 a commit() that is UNKNOWN", x.commit(1), UNKNOWN);
        x.tell(0, 7);
        x.tell(1, 11);
        due("12 is none", x.respond(0), ORDER);
    }

    // 12: "or simulated since then"
    private static void respondSimulatedSince() {
        SigmaDesk x = single();
        x.commit(1);
        due("12 simulate(5003, 1)", x.simulate(Q, 1), BAD);
        due("12 respond(0) after a refused simulate()", x.respond(0), 0);
        x.simulate(0, 1);
        due("12 respond(0) after simulate()", x.respond(0), ORDER);
        due("12 respond(-1) after simulate()", x.respond(-1), BAD);
        x.commit(1);
        due("12 respond(0) after another commit()", x.respond(0), 0);
        x.simulate(0, 1);
        x.prove(1);
        due("12 respond(0) after prove(), which commits", x.respond(0), 0);
        x.change(0, 0, 5);
        x.save();
        x.extract();
        due("12 respond(0) after change(), save() and extract()", x.respond(0), 0);
    }

    // 12: "It may respond again and again."
    private static void respondAgainAndAgain() {
        SigmaDesk x = three(false, true);
        x.tell(1, 2);
        x.tell(2, 3);
        x.commit(12);
        for (int c = 0; c < Q; c += 80) {
            due("12 respond(" + c + ")", x.respond(c), 0);
            due("12 challenge()", x.challenge(), c);
            due("12 verify()", x.verify(), true);
        }
        due("12 respond(5) twice", x.respond(5), 0);
        int response = x.part(2, 3);
        due("12 respond(5) twice", x.respond(5), 0);
        due("12 is as once", x.part(2, 3), response);
    }

    // 13: "BAD when c is not 0 .. 5002"
    private static void simulateWithNoExponent() {
        SigmaDesk x = new SigmaDesk();
        x.leaf(4, 4);
        due("13 simulate(0, 1) without a tree", x.simulate(0, 1), NONE);
        x = three(false, false);
        for (int c : NO_EXPONENTS) {
            due("13 simulate(" + c + ", 1)", x.simulate(c, 1), BAD);
            due("13 nothing is simulated", x.part(0, 0), 0);
        }
        for (int c : new int[] {0, 1, 5001, 5002}) {
            due("13 simulate(" + c + ", 1)", x.simulate(c, 1), 0);
            due("13 challenge()", x.challenge(), c);
            due("13 verify()", x.verify(), true);
        }
    }

    // 13: "The state for drawing becomes seed, and the tree is committed, simulated with c": known or not
    private static void simulateWhatIsNotKnown() {
        for (int seed : EDGE_SEEDS) {
            SigmaDesk x = two(true);
            due("13 simulate(9, " + seed + "), not known", x.simulate(9, seed), 0);
            seed(seed);
            due("13 part(0, 3)", x.part(0, 3), draw());
            due("13 part(1, 3)", x.part(1, 3), draw());
            due("13 verify()", x.verify(), true);
            due("13 known()", x.known(), false);
            x.tell(0, 7);
            x.tell(1, 11);
            due("13 simulate(9, " + seed + "), known", x.simulate(9, seed), 0);
            seed(seed);
            due("13 part(0, 3)", x.part(0, 3), draw());
            due("13 challenge()", x.challenge(), 9);
        }
    }

    // 14: "NONE; UNKNOWN"
    private static void proveNotKnown() {
        SigmaDesk x = new SigmaDesk();
        x.leaf(4, 4);
        due("14 prove(1) without a tree", x.prove(1), NONE);
        x = two(true);
        due("14 prove(1), none told", x.prove(1), UNKNOWN);
        x.tell(0, 7);
        due("14 prove(1), one told of an AND", x.prove(1), UNKNOWN);
        due("14 nothing is committed", x.part(0, 0), 0);
        x.tell(1, 11);
        due("14 prove(1), both told", x.prove(1), x.hash());
        due("14 verify()", x.verify(), true);
    }

    // 14: "As commit(seed) and then respond() to the hash. Answers the hash"
    private static void proveAsCommitAndRespond() {
        for (int seed : EDGE_SEEDS) {
            SigmaDesk x = three(true, false);
            SigmaDesk y = three(true, false);
            x.tell(2, 3);
            y.tell(2, 3);
            due("14 commit(" + seed + ")", x.commit(seed), 0);
            due("14 respond()", x.respond(x.hash()), 0);
            due("14 prove(" + seed + ")", y.prove(seed), x.hash());
            for (int i = 0; i < 3; i++) {
                dueParts("14", y, i, x.part(i, 0), x.part(i, 1), x.part(i, 2), x.part(i, 3));
            }
            due("14 challenge()", y.challenge(), x.hash());
            due("14 verify()", y.verify(), true);
        }
    }

    // 15: "NONE when there is no tree"
    private static void hashWithoutTree() {
        SigmaDesk x = new SigmaDesk();
        due("15 hash() without a tree", x.hash(), NONE);
        x.leaf(4, 4);
        due("15 hash() with a leaf on the stack", x.hash(), NONE);
        x.accept();
        due("15 hash()", x.hash(), hashOf(4, 4, 0));
        x.leaf(9, 9);
        due("15 hash() of the tree, not of the stack", x.hash(), hashOf(4, 4, 0));
    }

    // 16: "Whether there is a tree and the transcript is accepted."
    private static void verifyWithoutTree() {
        SigmaDesk x = new SigmaDesk();
        due("16 verify() without a tree", x.verify(), false);
        x.leaf(4, 4);
        due("16 verify() with a leaf on the stack", x.verify(), false);
        x.accept();
        due("16 verify() at first", x.verify(), false);
        x.change(0, 0, 1);
        due("16 verify(), 1 = 1", x.verify(), true);
        x.change(0, 0, 2);
        due("16 verify(), 1 = 2", x.verify(), false);
        // Commitments that are no elements may stand there, and are never accepted.
        for (int a : new int[] {0, 5, 10006}) {
            x.change(0, 0, a);
            for (int response : new int[] {0, 1, 2501, 5002}) {
                x.change(0, 3, response);
                due("16 verify() with the commitment " + a, x.verify(), false);
            }
        }
    }

    // 17: "NONE when there is no tree; ORDER when it has none"
    private static void challengeOrNone() {
        SigmaDesk x = new SigmaDesk();
        due("17 challenge() without a tree", x.challenge(), NONE);
        x.leaf(4, 4);
        due("17 challenge() with a leaf on the stack", x.challenge(), NONE);
        x = two(true);
        due("17 challenge() at first", x.challenge(), 0);
        x.change(0, 2, 1);
        due("17 challenge(), 1 and 0", x.challenge(), ORDER);
        x.change(1, 2, 1);
        due("17 challenge(), 1 and 1", x.challenge(), 1);
        x.change(1, 2, 5002);
        due("17 challenge(), 1 and 5002", x.challenge(), ORDER);
        x.change(0, 2, 5002);
        due("17 challenge(), 5002 and 5002", x.challenge(), 5002);
        x = two(false);
        x.change(0, 2, 1);
        due("17 challenge() of an OR, 1 and 0", x.challenge(), 1);
    }

    // 18: "NONE; BAD when there is no such leaf"
    private static void partOfNoLeaf() {
        SigmaDesk x = new SigmaDesk();
        x.leaf(4, 4);
        due("18 part(0, 0) without a tree", x.part(0, 0), NONE);
        for (int leaves = 1; leaves <= 8; leaves++) {
            x = new SigmaDesk();
            stackChain(x, leaves, true);
            x.accept();
            for (int what : new int[] {0, 2, 3}) {
                for (int leaf : NO_LEAVES) {
                    due("18 part(" + leaf + ", " + what + ")", x.part(leaf, what), BAD);
                }
                due("18 part(n, " + what + ")", x.part(leaves, what), BAD);
                due("18 part(n - 1, " + what + ")", x.part(leaves - 1, what), 0);
                due("18 part(0, " + what + ")", x.part(0, what), 0);
            }
        }
    }

    // 18: "or what is not as said"
    private static void partOfNoSuchKind() {
        SigmaDesk x = new SigmaDesk();
        x.equal(4, 4, 9, 9);
        x.leaf(4, 4);
        x.join(true);
        x.accept();
        for (int leaf = 0; leaf < 2; leaf++) {
            for (int what : NO_PARTS) {
                due("18 part(" + leaf + ", " + what + ")", x.part(leaf, what), BAD);
            }
            due("18 part(" + leaf + ", 0)", x.part(leaf, 0), 0);
            due("18 part(" + leaf + ", 3)", x.part(leaf, 3), 0);
        }
    }

    // 18: "or 1 for a leaf with one pair"
    private static void partOfTheSecondPair() {
        for (int shape = 0; shape < 16; shape++) {
            SigmaDesk x = new SigmaDesk();
            for (int leaf = 0; leaf < 4; leaf++) {
                boolean twoPairs = (shape >> leaf & 1) == 1;
                due("18 put", twoPairs ? x.equal(4, 4, 9, 9) : x.leaf(4, 4), true);
            }
            x.join(true);
            x.join(true);
            x.join(true);
            x.accept();
            for (int leaf = 0; leaf < 4; leaf++) {
                boolean twoPairs = (shape >> leaf & 1) == 1;
                due("18 part(" + leaf + ", 1) of " + shape, x.part(leaf, 1), twoPairs ? 0 : BAD);
                due("18 change(" + leaf + ", 1, 9) of " + shape, x.change(leaf, 1, 9), twoPairs);
                due("18 part(" + leaf + ", 1) of " + shape, x.part(leaf, 1), twoPairs ? 9 : BAD);
                due("18 part(" + leaf + ", 0) of " + shape, x.part(leaf, 0), 0);
                due("18 part(" + leaf + ", 2) of " + shape, x.part(leaf, 2), 0);
            }
        }
    }

    // 19: "false when there is none such"
    private static void changeOfNoneSuch() {
        SigmaDesk x = new SigmaDesk();
        x.leaf(4, 4);
        due("19 change(0, 0, 1) without a tree", x.change(0, 0, 1), false);
        x = three(true, true);
        for (int leaf : NO_LEAVES) {
            for (int what = 0; what < 4; what++) {
                due("19 change(" + leaf + ", " + what + ", 1)", x.change(leaf, what, 1), false);
            }
        }
        for (int what : NO_PARTS) {
            for (int leaf = 0; leaf < 3; leaf++) {
                due("19 change(" + leaf + ", " + what + ", 1)", x.change(leaf, what, 1), false);
            }
        }
        due("19 change(3, 0, 1)", x.change(3, 0, 1), false);
        due("19 change(1, 1, 1), one pair", x.change(1, 1, 1), false);
        dueParts("19", x, 0, 0, BAD, 0, 0);
        dueParts("19", x, 1, 0, BAD, 0, 0);
        dueParts("19", x, 2, 0, 0, 0, 0);
        due("19 change(2, 0, 1)", x.change(2, 0, 1), true);
        due("19 change(2, 1, 2), two pairs", x.change(2, 1, 2), true);
        due("19 change(2, 2, 3)", x.change(2, 2, 3), true);
        due("19 change(2, 3, 4)", x.change(2, 3, 4), true);
        dueParts("19", x, 2, 1, 2, 3, 4);
        dueParts("19", x, 1, 0, BAD, 0, 0);
    }

    // 19: "or v is not 0 .. 10006 (what 0 or 1)"
    private static void changeOfCommitments() {
        SigmaDesk x = three(true, true);
        for (int what = 0; what < 2; what++) {
            for (int v : new int[] {10006, 0, 1, 5, 5003, 10005}) {
                due("19 change(2, " + what + ", " + v + ")", x.change(2, what, v), true);
                due("19 part(2, " + what + ")", x.part(2, what), v);
                for (int no : new int[] {-1, 10007, 10008, Integer.MIN_VALUE, Integer.MAX_VALUE}) {
                    due("19 change(2, " + what + ", " + no + ")", x.change(2, what, no), false);
                    due("19 part(2, " + what + ") stays", x.part(2, what), v);
                }
            }
        }
    }

    // 19: "or 0 .. 5002 (2 or 3)"
    private static void changeOfExponents() {
        SigmaDesk x = three(true, true);
        for (int what = 2; what < 4; what++) {
            for (int v : new int[] {5002, 0, 1, 5001}) {
                due("19 change(1, " + what + ", " + v + ")", x.change(1, what, v), true);
                due("19 part(1, " + what + ")", x.part(1, what), v);
                for (int no : NO_EXPONENTS) {
                    due("19 change(1, " + what + ", " + no + ")", x.change(1, what, no), false);
                    due("19 part(1, " + what + ") stays", x.part(1, what), v);
                }
                due("19 change(1, " + what + ", 10006)", x.change(1, what, 10006), false);
            }
        }
    }

    // 20: "false when there is no tree"
    private static void saveWithoutTree() {
        SigmaDesk x = new SigmaDesk();
        due("20 save() without a tree", x.save(), false);
        x.leaf(4, 4);
        due("20 save() with a leaf on the stack", x.save(), false);
        x.accept();
        due("20 save() at first", x.save(), true);
        due("20 save() again", x.save(), true);
    }

    // 20: "The transcript as it is now is the saved one"
    private static void saveAsItIsNow() {
        SigmaDesk x = single();
        x.commit(1);
        x.respond(1);
        x.save();
        x.respond(2);
        due("20 1 and 2", x.extract(), 1);
        due("20 the saved one stays after extract()", x.extract(), 1);
        x.save();
        due("20 2 and 2", x.extract(), 0);
        x.respond(1);
        due("20 2 and 1", x.extract(), 1);
        x.simulate(1, 1);
        due("20 another commitment", x.extract(), ORDER);
        x.commit(1);
        x.respond(2);
        due("20 the saved one stays all the while", x.extract(), 0);
        x.change(0, 3, (x.part(0, 3) + 1) % Q);
        x.save();
        x.respond(2);
        due("20 a saved one that is not accepted", x.extract(), ORDER);
    }

    // 21: "NONE; ORDER when nothing is saved"
    private static void extractNothingSaved() {
        SigmaDesk x = new SigmaDesk();
        due("21 extract() without a tree", x.extract(), NONE);
        x.leaf(4, 1);
        due("21 extract() with a leaf on the stack", x.extract(), NONE);
        x.accept();
        x.simulate(1, 1);
        due("21 extract(), nothing saved", x.extract(), ORDER);
        x.save();
        due("21 extract(), saved", x.extract(), 0);
    }

    // 21: "one of them is not accepted": the saved one
    private static void extractSavedNotAccepted() {
        SigmaDesk x = two(true);
        x.save();
        x.simulate(3, 3);
        due("21 saved at first", x.extract(), ORDER);
        // All its leaves accept, but the tree has no challenge: 3 and 4.
        int commitment = x.part(1, 0);
        int response = x.part(1, 3);
        x.change(1, 2, 4);
        x.change(1, 3, modQ(response + 11));
        x.save();
        x.change(1, 2, 3);
        x.change(1, 3, response);
        due("21 the present one is accepted", x.verify(), true);
        due("21 the commitment is the same", x.part(1, 0), commitment);
        due("21 saved without a challenge", x.extract(), ORDER);
        // The other leaf goes on to 4 too: now the saved one has a challenge.
        x.change(0, 2, 4);
        x.change(0, 3, modQ(x.part(0, 3) + 7));
        x.change(1, 2, 4);
        x.change(1, 3, modQ(response + 11));
        x.save();
        x.simulate(3, 3);
        due("21 saved with a challenge", x.extract(), 2);
    }

    // 21: "one of them is not accepted": the present one
    private static void extractPresentNotAccepted() {
        SigmaDesk x = two(true);
        x.simulate(3, 3);
        x.save();
        int response = x.part(1, 3);
        x.change(1, 3, modQ(response + 1));
        due("21 a leaf that does not accept", x.extract(), ORDER);
        x.change(1, 2, 4);
        x.change(1, 3, modQ(response + 11));
        due("21 a tree without a challenge", x.extract(), ORDER);
        due("21 no witness is told", x.witness(1), UNKNOWN);
        x.change(0, 2, 4);
        x.change(0, 3, modQ(x.part(0, 3) + 7));
        due("21 accepted again", x.extract(), 2);
        due("21 witness(0)", x.witness(0), 7);
        due("21 witness(1)", x.witness(1), 11);
    }

    // 21: "or some commitments in them are not the same"
    private static void extractOtherCommitments() {
        for (int leaf = 0; leaf < 8; leaf++) {
            for (int pair = 0; pair < 2; pair++) {
                SigmaDesk x = eightUnequal();
                x.simulate(5, 5);
                x.save();
                due("21 the same commitments", x.extract(), 0);
                // The pairs of a leaf have exponents leaf + 1 and leaf + 2: the move keeps just one commitment.
                int kept = pair == 0 ? leaf + 2 : leaf + 1;
                int c = modQ(x.part(leaf, 2) + 1);
                x.change(leaf, 2, c);
                x.change(leaf, 3, modQ(x.part(leaf, 3) + kept));
                int b = pair == 0 ? 4 : 9;
                int y = pow(b, pair == 0 ? leaf + 1 : leaf + 2);
                x.change(leaf, pair, simulated(b, y, c, x.part(leaf, 3)));
                due("21 accepted", x.verify(), true);
                due("21 only commitment " + pair + " of " + leaf + " differs", x.extract(), ORDER);
                due("21 no witness is told", x.witness(leaf), UNKNOWN);
            }
        }
    }

    /** An OR of eight leaves with two pairs each, which have no witness in common. */
    private static SigmaDesk eightUnequal() {
        SigmaDesk x = new SigmaDesk();
        x.equal(4, pow(4, 1), 9, pow(9, 2));
        for (int i = 1; i < 8; i++) {
            x.equal(4, pow(4, i + 1), 9, pow(9, i + 2));
            x.join(false);
        }
        x.accept();
        return x;
    }

    // 21: "for each leaf whose challenges in both are different, its witness is told .. Answers for how
    // many leaves that is so"
    private static void extractHowMany() {
        for (int which = 0; which < 256; which++) {
            SigmaDesk x = new SigmaDesk();
            stackChain(x, 8, false);
            x.accept();
            x.tell(3, 4);
            x.simulate(which, which);
            x.save();
            for (int i = 0; i < 8; i++) {
                if ((which >> i & 1) == 1) {
                    x.change(i, 2, modQ(x.part(i, 2) + 1));
                    x.change(i, 3, modQ(x.part(i, 3) + i + 1));
                }
            }
            due("21 extract() of " + which, x.extract(), Integer.bitCount(which));
            for (int i = 0; i < 8; i++) {
                boolean told = i == 3 || (which >> i & 1) == 1;
                due("21 witness(" + i + ") of " + which, x.witness(i), told ? i + 1 : UNKNOWN);
            }
            due("21 known() of " + which, x.known(), true);
        }
    }

    // 21: "for each leaf whose challenges in both are different": with two pairs too, in an AND all of them
    private static void extractTwoPairs() {
        for (int leaves = 1; leaves <= 8; leaves++) {
            SigmaDesk x = new SigmaDesk();
            x.equal(4, pow(4, 1), 9, pow(9, 1));
            for (int i = 2; i <= leaves; i++) {
                x.equal(4, pow(4, i), 9, pow(9, i));
                x.join(true);
            }
            x.accept();
            for (int i = 0; i < leaves; i++) {
                x.tell(i, i + 1);
            }
            x.commit(leaves);
            x.respond(0);
            x.save();
            due("21 extract() of the same challenge", x.extract(), 0);
            x.respond(5002);
            due("21 extract() of " + leaves + " with two pairs", x.extract(), leaves);
            due("21 the last witness", x.witness(leaves - 1), leaves);
        }
    }

    // 21: "the difference of its responses divided by that of its challenges"
    private static void extractDivides() {
        int[] exponents = {0, 1, 2, 2501, 2502, 5001, 5002};
        for (int witness : exponents) {
            for (int first : exponents) {
                for (int second : exponents) {
                    SigmaDesk x = new SigmaDesk();
                    x.leaf(9, pow(9, witness));
                    x.accept();
                    x.simulate(first, witness + 1);
                    x.save();
                    x.change(0, 2, second);
                    x.change(0, 3, modQ(x.part(0, 3) + (long) witness * (second - first)));
                    String name = "21 " + witness + " with " + first + " and " + second;
                    due(name, x.extract(), first == second ? 0 : 1);
                    due(name + ", witness(0)", x.witness(0), first == second ? UNKNOWN : witness);
                    due(name + ", known()", x.known(), first != second);
                    due(name + ", tell()", x.tell(0, witness), true);
                }
            }
        }
    }
}
