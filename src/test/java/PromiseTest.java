/** One method for each promise of the document. */
public final class PromiseTest extends Check {
    public static void main(String[] args) {
        constants();
        promise1();
        promise2();
        promise3();
        promise4();
        promise5();
        promise6();
        promise7();
        promise8();
        promise9();
        promise10();
        promise11();
        promise12();
        promise13();
        promise14();
        promise15();
        promise16();
        promise17();
        promise18();
        promise19();
        promise20();
        promise21();
        finish();
    }

    private static void constants() {
        due("BAD", SigmaDesk.BAD, -1);
        due("NONE", SigmaDesk.NONE, -2);
        due("UNKNOWN", SigmaDesk.UNKNOWN, -3);
        due("ORDER", SigmaDesk.ORDER, -4);
    }

    private static void promise1() {
        SigmaDesk x = new SigmaDesk();
        due("1 discard()", x.discard(), false);
        due("1 join(true)", x.join(true), false);
        due("1 accept()", x.accept(), BAD);
        dueNoTree("1", x);
        for (int i = 0; i < 6; i++) {
            due("1 leaf(4, 4)", x.leaf(4, 4), true);
        }
        due("1 seventh leaf(4, 4)", x.leaf(4, 4), false);
        dueNoTree("1 with a stack", x);
    }

    private static void dueNoTree(String name, SigmaDesk x) {
        due(name + " known()", x.known(), false);
        due(name + " verify()", x.verify(), false);
        due(name + " save()", x.save(), false);
        due(name + " tell(0, 0)", x.tell(0, 0), false);
        due(name + " change(0, 0, 0)", x.change(0, 0, 0), false);
        due(name + " witness(0)", x.witness(0), NONE);
        due(name + " witness(-1)", x.witness(-1), NONE);
        due(name + " commit(1)", x.commit(1), NONE);
        due(name + " respond(1)", x.respond(1), NONE);
        due(name + " respond(-1)", x.respond(-1), NONE);
        due(name + " simulate(1, 1)", x.simulate(1, 1), NONE);
        due(name + " simulate(5003, 1)", x.simulate(5003, 1), NONE);
        due(name + " prove(1)", x.prove(1), NONE);
        due(name + " hash()", x.hash(), NONE);
        due(name + " challenge()", x.challenge(), NONE);
        due(name + " part(0, 0)", x.part(0, 0), NONE);
        due(name + " part(-1, 9)", x.part(-1, 9), NONE);
        due(name + " extract()", x.extract(), NONE);
    }

    private static void promise2() {
        for (int b = -3; b < P + 10; b++) {
            boolean element = b >= 1 && b < P && pow(b, Q) == 1;
            SigmaDesk x = new SigmaDesk();
            for (int e : new int[] {0, 1, 2, 1000 + b % 1000, Q - 1}) {
                due("2 power(" + b + ", " + e + ")", x.power(b, e), element ? pow(b, e) : BAD);
            }
            due("2 power(" + b + ", -1)", x.power(b, -1), BAD);
            due("2 power(" + b + ", 5003)", x.power(b, Q), BAD);
        }
        SigmaDesk x = new SigmaDesk();
        for (int e : NO_EXPONENTS) {
            due("2 power(4, " + e + ")", x.power(4, e), BAD);
            due("2 power(1, " + e + ")", x.power(1, e), BAD);
        }
        for (int b : NO_ELEMENTS) {
            due("2 power(" + b + ", 1)", x.power(b, 1), BAD);
        }
        due("2 power(1, 5002)", x.power(1, 5002), 1);
    }

    private static void promise3() {
        SigmaDesk x = new SigmaDesk();
        for (int n : NO_ELEMENTS) {
            due("3 leaf(" + n + ", 4)", x.leaf(n, 4), false);
            due("3 leaf(4, " + n + ")", x.leaf(4, n), false);
        }
        due("3 leaf(1, 1)", x.leaf(1, 1), false);
        due("3 leaf(1, 4)", x.leaf(1, 4), false);
        due("3 nothing was put", x.discard(), false);
        due("3 leaf(4, 1)", x.leaf(4, 1), true);
        for (int i = 0; i < 5; i++) {
            due("3 leaf(4, 4)", x.leaf(4, 4), true);
        }
        due("3 seventh leaf", x.leaf(4, 4), false);
        for (int i = 0; i < 5; i++) {
            due("3 discard()", x.discard(), true);
        }
        due("3 accept()", x.accept(), 1);
        due("3 one pair", x.part(0, 1), BAD);
        due("3 tell(0, 0)", x.tell(0, 0), true);
    }

    private static void promise4() {
        SigmaDesk x = new SigmaDesk();
        for (int n : NO_ELEMENTS) {
            due("4 equal(" + n + ", 4, 4, 4)", x.equal(n, 4, 4, 4), false);
            due("4 equal(4, " + n + ", 4, 4)", x.equal(4, n, 4, 4), false);
            due("4 equal(4, 4, " + n + ", 4)", x.equal(4, 4, n, 4), false);
            due("4 equal(4, 4, 4, " + n + ")", x.equal(4, 4, 4, n), false);
        }
        due("4 equal(1, 4, 4, 4)", x.equal(1, 4, 4, 4), false);
        due("4 equal(4, 4, 1, 4)", x.equal(4, 4, 1, 4), false);
        due("4 nothing was put", x.discard(), false);
        for (int i = 0; i < 6; i++) {
            due("4 equal(4, 1, 9, 1)", x.equal(4, 1, 9, 1), true);
        }
        due("4 seventh equal", x.equal(4, 1, 9, 1), false);
        for (int i = 0; i < 5; i++) {
            due("4 discard()", x.discard(), true);
        }
        due("4 accept()", x.accept(), 1);
        due("4 two pairs", x.part(0, 1), 0);
    }

    private static void promise5() {
        SigmaDesk x = new SigmaDesk();
        x.leaf(4, 4);
        due("5 join of one", x.join(true), false);
        due("5 join of one", x.join(false), false);
        due("5 accept()", x.accept(), 1);

        x = two(true);
        due("5 tell(0, 11)", x.tell(0, 11), false);
        due("5 tell(1, 7)", x.tell(1, 7), false);
        due("5 tell(0, 7)", x.tell(0, 7), true);
        due("5 AND known()", x.known(), false);
        due("5 tell(1, 11)", x.tell(1, 11), true);
        due("5 AND known()", x.known(), true);
        x = two(false);
        x.tell(1, 11);
        due("5 OR known()", x.known(), true);

        // The lower of three statements is left alone.
        x = new SigmaDesk();
        x.leaf(4, pow(4, 1));
        x.leaf(4, pow(4, 2));
        x.leaf(4, pow(4, 3));
        due("5 join(false)", x.join(false), true);
        due("5 accept() of two", x.accept(), BAD);
        due("5 join(true)", x.join(true), true);
        due("5 accept()", x.accept(), 3);
        for (int i = 0; i < 3; i++) {
            due("5 tell(" + i + ")", x.tell(i, i + 1), true);
        }
        tooManyLeaves();
    }

    private static void tooManyLeaves() {
        SigmaDesk x = new SigmaDesk();
        x.leaf(4, pow(4, 1));
        for (int i = 2; i <= 8; i++) {
            x.leaf(4, pow(4, i));
            due("5 join to " + i, x.join(true), true);
        }
        x.leaf(4, pow(4, 9));
        due("5 join to 9", x.join(true), false);
        due("5 join to 9", x.join(false), false);
        due("5 discard()", x.discard(), true);
        due("5 accept()", x.accept(), 8);
        for (int i = 0; i < 8; i++) {
            due("5 tell(" + i + ")", x.tell(i, i + 1), true);
        }
        due("5 known()", x.known(), true);
    }

    private static void promise6() {
        SigmaDesk x = new SigmaDesk();
        due("6 discard() of none", x.discard(), false);
        x.leaf(4, pow(4, 2));
        x.leaf(4, pow(4, 3));
        due("6 discard()", x.discard(), true);
        due("6 accept()", x.accept(), 1);
        due("6 the lower one is left", x.tell(0, 2), true);
        due("6 discard() after accept()", x.discard(), false);
        due("6 the tree stays", x.witness(0), 2);
        x.leaf(4, 4);
        x.leaf(4, 4);
        x.join(true);
        due("6 discard() of an AND", x.discard(), true);
        due("6 it was one statement", x.discard(), false);
    }

    private static void promise7() {
        SigmaDesk x = single();
        x.commit(5);
        x.save();
        due("7 accept() of none", x.accept(), BAD);
        x.leaf(4, pow(4, 7));
        x.leaf(4, pow(4, 7));
        due("7 accept() of two", x.accept(), BAD);
        due("7 the old tree stays", x.witness(0), 7);
        due("7 the old commitment stays", x.respond(0), 0);
        due("7 the old transcript stays", x.verify(), true);
        due("7 the old saved one stays", x.extract(), ORDER);
        x.save();
        due("7 the old saved one stays", x.extract(), 0);
        x.join(true);
        due("7 accept()", x.accept(), 2);
        due("7 witness(0)", x.witness(0), UNKNOWN);
        due("7 known()", x.known(), false);
        due("7 part(0, 0)", x.part(0, 0), 0);
        due("7 part(0, 2)", x.part(0, 2), 0);
        due("7 part(0, 3)", x.part(0, 3), 0);
        due("7 respond(0)", x.respond(0), ORDER);
        x.simulate(3, 3);
        due("7 nothing is saved", x.extract(), ORDER);
        x.save();
        due("7 extract()", x.extract(), 0);
        due("7 the statement has left the stack", x.discard(), false);
        due("7 accept() again", x.accept(), BAD);
        fewerLeavesAfterMore();
        sameStatementAgain();
    }

    private static void sameStatementAgain() {
        SigmaDesk x = single();
        x.commit(5);
        x.respond(1);
        x.save();
        x.leaf(4, pow(4, 7));
        due("7 accept() of the same statement", x.accept(), 1);
        x.tell(0, 7);
        due("7 nothing is committed", x.respond(2), ORDER);
        x.commit(5);
        x.respond(2);
        due("7 nothing is saved", x.extract(), ORDER);
    }

    private static void fewerLeavesAfterMore() {
        SigmaDesk x = two(true);
        x.simulate(9, 9);
        x.equal(4, 4, 9, 9);
        due("7 accept()", x.accept(), 1);
        dueParts("7", x, 0, 0, 0, 0, 0);
        due("7 part(1, 0)", x.part(1, 0), BAD);
        due("7 tell(1, 11)", x.tell(1, 11), false);
        due("7 hash()", x.hash(), hashOf(4, 4, 0, 9, 9, 0));
    }

    private static void promise8() {
        SigmaDesk x = two(true);
        due("8 tell(-1, 7)", x.tell(-1, 7), false);
        due("8 tell(2, 7)", x.tell(2, 7), false);
        due("8 tell(8, 7)", x.tell(8, 7), false);
        due("8 tell(max, 7)", x.tell(Integer.MAX_VALUE, 7), false);
        due("8 tell(min, 7)", x.tell(Integer.MIN_VALUE, 7), false);
        for (int e : NO_EXPONENTS) {
            due("8 tell(0, " + e + ")", x.tell(0, e), false);
        }
        due("8 tell(0, 7 + Q)", x.tell(0, 7 + Q), false);
        due("8 tell(0, 8)", x.tell(0, 8), false);
        due("8 nothing is told", x.witness(0), UNKNOWN);
        due("8 tell(0, 7)", x.tell(0, 7), true);
        due("8 tell(0, 7) again", x.tell(0, 7), true);
        due("8 tell(0, 8)", x.tell(0, 8), false);
        due("8 witness(0)", x.witness(0), 7);
        due("8 witness(1)", x.witness(1), UNKNOWN);

        x = new SigmaDesk();
        x.equal(4, pow(4, 3), 9, pow(9, 4));
        x.equal(4, pow(4, 5), 9, pow(9, 5));
        x.join(true);
        x.accept();
        due("8 only the first pair", x.tell(0, 3), false);
        due("8 only the second pair", x.tell(0, 4), false);
        due("8 both pairs", x.tell(1, 5), true);

        x = new SigmaDesk();
        x.leaf(4, 1);
        x.leaf(4, pow(4, Q - 1));
        x.join(false);
        x.accept();
        due("8 tell(0, 0)", x.tell(0, 0), true);
        due("8 tell(1, 5002)", x.tell(1, Q - 1), true);
    }

    private static void promise9() {
        SigmaDesk x = two(false);
        due("9 witness(-1)", x.witness(-1), BAD);
        due("9 witness(2)", x.witness(2), BAD);
        due("9 witness(max)", x.witness(Integer.MAX_VALUE), BAD);
        due("9 witness(min)", x.witness(Integer.MIN_VALUE), BAD);
        due("9 witness(1)", x.witness(1), UNKNOWN);
        x.tell(1, 11);
        due("9 witness(1)", x.witness(1), 11);
        due("9 witness(0)", x.witness(0), UNKNOWN);
    }

    private static void promise10() {
        for (int told = 0; told < 8; told++) {
            SigmaDesk x = three(true, false);
            SigmaDesk y = three(false, true);
            for (int i = 0; i < 3; i++) {
                if ((told >> i & 1) == 1) {
                    x.tell(i, i + 1);
                    y.tell(i, i + 1);
                }
            }
            boolean a = (told & 1) != 0;
            boolean b = (told & 2) != 0;
            boolean c = (told & 4) != 0;
            due("10 (a AND b) OR c, " + told, x.known(), a && b || c);
            due("10 (a OR b) AND c, " + told, y.known(), (a || b) && c);
        }
        SigmaDesk x = single();
        due("10 a leaf", x.known(), true);
    }

    private static void promise11() {
        for (int seed : new int[] {0, 1, 42, -9, Integer.MIN_VALUE, Integer.MAX_VALUE}) {
            commitAnd(seed);
            commitOr(seed, true, false);
            commitOr(seed, false, true);
            commitOr(seed, true, true);
        }
        SigmaDesk x = three(true, true);
        x.simulate(5, 6);
        x.tell(0, 1);
        x.tell(1, 2);
        int before = x.hash();
        due("11 commit() when not known", x.commit(1), UNKNOWN);
        due("11 it changes nothing", x.hash(), before);
        due("11 it changes nothing", x.verify(), true);
        due("11 it is not committed", x.respond(1), ORDER);
    }

    private static void commitAnd(int seed) {
        SigmaDesk x = three(true, true);
        for (int i = 0; i < 3; i++) {
            x.tell(i, i + 1);
            x.change(i, 2, 77);
            x.change(i, 3, 78);
        }
        due("11 commit(" + seed + ")", x.commit(seed), 0);
        seed(seed);
        dueParts("11 AND", x, 0, pow(4, draw()), BAD, 0, 0);
        dueParts("11 AND", x, 1, pow(9, draw()), BAD, 0, 0);
        int nonce = draw();
        dueParts("11 AND", x, 2, pow(16, nonce), pow(25, nonce), 0, 0);
    }

    private static void commitOr(int seed, boolean first, boolean second) {
        SigmaDesk x = two(false);
        if (first) {
            x.tell(0, 7);
        }
        if (second) {
            x.tell(1, 11);
        }
        due("11 commit(" + seed + ")", x.commit(seed), 0);
        seed(seed);
        int c = draw();
        int one = draw();
        int other = draw();
        if (first) {
            dueParts("11 OR", x, 0, pow(4, one), BAD, 0, 0);
            dueParts("11 OR", x, 1, simulated(9, pow(9, 11), c, other), BAD, c, other);
        } else {
            dueParts("11 OR", x, 0, simulated(4, pow(4, 7), c, one), BAD, c, one);
            dueParts("11 OR", x, 1, pow(9, other), BAD, 0, 0);
        }
    }

    private static void promise12() {
        SigmaDesk x = single();
        due("12 not committed", x.respond(1), ORDER);
        for (int e : NO_EXPONENTS) {
            due("12 BAD before ORDER", x.respond(e), BAD);
        }
        x.commit(3);
        seed(3);
        int nonce = draw();
        for (int e : NO_EXPONENTS) {
            due("12 respond(" + e + ")", x.respond(e), BAD);
        }
        dueParts("12 BAD changes nothing", x, 0, pow(4, nonce), BAD, 0, 0);
        for (int c : new int[] {0, 1, 2500, Q - 1, 0}) {
            due("12 respond(" + c + ")", x.respond(c), 0);
            dueParts("12", x, 0, pow(4, nonce), BAD, c, modQ(nonce + c * 7L));
            due("12 verify()", x.verify(), true);
        }
        x.change(0, 0, 5);
        due("12 respond(9) after change()", x.respond(9), 0);
        dueParts("12 after change()", x, 0, 5, BAD, 9, modQ(nonce + 63));
        x.simulate(4, 4);
        due("12 simulated since then", x.respond(1), ORDER);
        x.simulate(Q, 4);
        x.commit(3);
        due("12 a simulate() that is BAD", x.simulate(Q, 4), BAD);
        due("12 is none", x.respond(1), 0);
        x.prove(8);
        due("12 after prove()", x.respond(1), 0);
        due("12 verify()", x.verify(), true);
        respondOr();
        respondAnd();
    }

    private static void respondOr() {
        SigmaDesk x = two(false);
        x.tell(1, 11);
        x.commit(6);
        seed(6);
        int c = draw();
        int response = draw();
        int nonce = draw();
        // Neither a witness told nor a part changed after the commitment moves the real side's challenge.
        x.tell(0, 7);
        x.change(0, 2, modQ(c + 1));
        due("12 respond(5)", x.respond(5), 0);
        int mine = modQ(5 - c);
        dueParts("12 OR", x, 0, simulated(4, pow(4, 7), c, response), BAD, modQ(c + 1), response);
        dueParts("12 OR", x, 1, pow(9, nonce), BAD, mine, modQ(nonce + mine * 11L));
        x.change(0, 2, c);
        due("12 verify()", x.verify(), true);
        due("12 challenge()", x.challenge(), 5);
        due("12 respond() to the drawn challenge", x.respond(c), 0);
        dueParts("12 OR", x, 1, pow(9, nonce), BAD, 0, nonce);
        x.commit(6);
        x.respond(5);
        due("12 a new commitment takes the left side", x.part(1, 2), c);
    }

    private static void respondAnd() {
        SigmaDesk x = three(false, true);
        x.tell(0, 1);
        x.tell(2, 3);
        x.commit(10);
        seed(10);
        int c = draw();
        int first = draw();
        int second = draw();
        int third = draw();
        x.respond(4000);
        int mine = modQ(4000 - c);
        dueParts("12 AND", x, 0, pow(4, first), BAD, mine, modQ(first + mine));
        dueParts("12 AND", x, 1, simulated(9, pow(9, 2), c, second), BAD, c, second);
        dueParts("12 AND", x, 2, pow(16, third), pow(25, third), 4000, modQ(third + 12000));
        due("12 verify()", x.verify(), true);
    }

    private static void promise13() {
        SigmaDesk x = single();
        for (int e : NO_EXPONENTS) {
            due("13 simulate(" + e + ", 1)", x.simulate(e, 1), BAD);
        }
        dueParts("13 BAD changes nothing", x, 0, 0, BAD, 0, 0);
        for (int seed : new int[] {0, 1, -1, Integer.MIN_VALUE, Integer.MAX_VALUE}) {
            for (int c : new int[] {0, 1, 1777, Q - 1}) {
                simulateOrAnd(c, seed);
                simulateAndOr(c, seed);
            }
            // Just the challenge that is drawn for the left side: 0 is left for the right one.
            seed(seed);
            int drawn = draw();
            simulateOrAnd(drawn, seed);
            simulateAndOr(drawn, seed);
        }
    }

    private static void simulateOrAnd(int c, int seed) {
        SigmaDesk x = three(false, true);
        due("13 simulate()", x.simulate(c, seed), 0);
        seed(seed);
        int d = draw();
        int r = draw();
        dueParts("13", x, 0, simulated(4, pow(4, 1), d, r), BAD, d, r);
        r = draw();
        int rest = modQ(c - d);
        dueParts("13", x, 1, simulated(9, pow(9, 2), rest, r), BAD, rest, r);
        r = draw();
        dueParts("13", x, 2, simulated(16, pow(16, 3), c, r), simulated(25, pow(25, 3), c, r), c, r);
        due("13 verify()", x.verify(), true);
        due("13 challenge()", x.challenge(), c);
        due("13 no witness is told", x.witness(0), UNKNOWN);
    }

    private static void simulateAndOr(int c, int seed) {
        SigmaDesk x = three(true, false);
        due("13 simulate()", x.simulate(c, seed), 0);
        seed(seed);
        int d = draw();
        int r = draw();
        dueParts("13", x, 0, simulated(4, pow(4, 1), d, r), BAD, d, r);
        r = draw();
        dueParts("13", x, 1, simulated(9, pow(9, 2), d, r), BAD, d, r);
        r = draw();
        d = modQ(c - d);
        dueParts("13", x, 2, simulated(16, pow(16, 3), d, r), simulated(25, pow(25, 3), d, r), d, r);
        due("13 verify()", x.verify(), true);
        due("13 challenge()", x.challenge(), c);
    }

    private static void promise14() {
        SigmaDesk x = two(true);
        x.tell(0, 7);
        x.simulate(2, 2);
        int before = x.hash();
        due("14 prove() when not known", x.prove(1), UNKNOWN);
        due("14 it changes nothing", x.hash(), before);
        due("14 it changes nothing", x.challenge(), 2);
        x.tell(1, 11);
        for (int seed : new int[] {0, 5, -5, Integer.MIN_VALUE, Integer.MAX_VALUE}) {
            seed(seed);
            int first = draw();
            int second = draw();
            int h = hashOf(4, pow(4, 7), pow(4, first), 9, pow(9, 11), pow(9, second));
            due("14 prove(" + seed + ")", x.prove(seed), h);
            dueParts("14", x, 0, pow(4, first), BAD, h, modQ(first + h * 7L));
            dueParts("14", x, 1, pow(9, second), BAD, h, modQ(second + h * 11L));
            due("14 verify()", x.verify(), true);
            due("14 hash()", x.hash(), h);
            due("14 challenge()", x.challenge(), h);
        }
    }

    private static void promise15() {
        SigmaDesk x = three(true, true);
        int[] mixed = {4, pow(4, 1), 0, 9, pow(9, 2), 0, 16, pow(16, 3), 0, 25, pow(25, 3), 0};
        due("15 hash() at first", x.hash(), hashOf(mixed));
        for (int v : new int[] {1, 5, 10006}) {
            x.change(0, 0, v);
            x.change(1, 0, v - 1);
            x.change(2, 0, v / 2);
            x.change(2, 1, v / 3);
            mixed[2] = v;
            mixed[5] = v - 1;
            mixed[8] = v / 2;
            mixed[11] = v / 3;
            due("15 hash()", x.hash(), hashOf(mixed));
        }
        x.change(0, 2, 5);
        x.change(1, 3, 5);
        due("15 hash() has no challenge and no response", x.hash(), hashOf(mixed));
    }

    private static void promise16() {
        SigmaDesk x = three(true, false);
        due("16 verify() at first", x.verify(), false);
        x.simulate(100, 7);
        due("16 verify()", x.verify(), true);
        for (int leaf = 0; leaf < 3; leaf++) {
            for (int what = 0; what < 4; what++) {
                int v = x.part(leaf, what);
                if (v >= 0) {
                    x.change(leaf, what, v == 0 ? 1 : v - 1);
                    due("16 wrong part(" + leaf + ", " + what + ")", x.verify(), false);
                    x.change(leaf, what, v);
                    due("16 right part(" + leaf + ", " + what + ")", x.verify(), true);
                }
            }
        }
        acceptingLeavesWithoutChallenge();
    }

    private static void acceptingLeavesWithoutChallenge() {
        SigmaDesk x = two(true);
        x.simulate(6, 1);
        int first = x.part(0, 0);
        int response = x.part(0, 3);
        x.simulate(7, 1);
        x.change(0, 0, first);
        x.change(0, 2, 6);
        x.change(0, 3, response);
        due("16 an AND with two challenges", x.verify(), false);
        due("16 has none", x.challenge(), ORDER);
        x.simulate(6, 1);
        due("16 verify()", x.verify(), true);
        // A commitment of 0 is allowed to stand there, and never accepted.
        x.change(0, 0, 0);
        due("16 a commitment of 0", x.verify(), false);
        x = single();
        x.change(0, 0, 1);
        due("16 1 = 1 times 1", x.verify(), true);
    }

    private static void promise17() {
        SigmaDesk x = three(true, false);
        due("17 challenge() at first", x.challenge(), 0);
        x.change(0, 2, 5000);
        due("17 none inside an OR", x.challenge(), ORDER);
        x.change(1, 2, 5000);
        due("17 challenge()", x.challenge(), 5000);
        x.change(2, 2, 5);
        due("17 the sum", x.challenge(), 2);
        x.change(2, 2, 3);
        due("17 the sum", x.challenge(), 0);

        x = three(false, true);
        x.change(0, 2, 5000);
        x.change(1, 2, 4000);
        due("17 different sides", x.challenge(), ORDER);
        x.change(2, 2, modQ(9000));
        due("17 same sides", x.challenge(), modQ(9000));
        due("17 leaves need not accept", x.verify(), false);

        noneOnBothSides();
        x = single();
        x.change(0, 2, 44);
        due("17 a leaf", x.challenge(), 44);
    }

    private static void noneOnBothSides() {
        for (int kind = 0; kind < 2; kind++) {
            SigmaDesk x = new SigmaDesk();
            for (int side = 0; side < 2; side++) {
                x.leaf(4, 4);
                x.leaf(4, 4);
                x.join(true);
            }
            x.join(kind == 0);
            x.accept();
            x.change(0, 2, 1);
            due("17 none on the left", x.challenge(), ORDER);
            x.change(2, 2, 1);
            due("17 none on both sides", x.challenge(), ORDER);
            x.change(0, 2, 0);
            due("17 none on the right", x.challenge(), ORDER);
            x.change(0, 2, 9);
            x.change(1, 2, 9);
            due("17 9 on the left, none on the right", x.challenge(), ORDER);
            x.change(0, 2, 8);
            x.change(2, 2, 9);
            x.change(3, 2, 9);
            due("17 none on the left, 9 on the right", x.challenge(), ORDER);
        }
    }

    private static void promise18() {
        SigmaDesk x = three(true, true);
        for (int leaf : new int[] {-1, 3, 7, 8, Integer.MIN_VALUE, Integer.MAX_VALUE}) {
            for (int what = 0; what < 4; what++) {
                due("18 part(" + leaf + ", " + what + ")", x.part(leaf, what), BAD);
            }
        }
        for (int what : new int[] {-1, 4, Integer.MIN_VALUE, Integer.MAX_VALUE}) {
            for (int leaf = 0; leaf < 3; leaf++) {
                due("18 part(" + leaf + ", " + what + ")", x.part(leaf, what), BAD);
            }
        }
        dueParts("18 at first", x, 0, 0, BAD, 0, 0);
        dueParts("18 at first", x, 2, 0, 0, 0, 0);
        x.simulate(9, 12);
        seed(12);
        int r = draw();
        dueParts("18", x, 0, simulated(4, pow(4, 1), 9, r), BAD, 9, r);
        draw();
        r = draw();
        dueParts("18", x, 2, simulated(16, pow(16, 3), 9, r), simulated(25, pow(25, 3), 9, r), 9, r);
    }

    private static void promise19() {
        SigmaDesk x = three(true, true);
        due("19 change(0, 0, 10006)", x.change(0, 0, 10006), true);
        due("19 change(0, 0, 10007)", x.change(0, 0, 10007), false);
        due("19 change(0, 0, -1)", x.change(0, 0, -1), false);
        due("19 change(0, 1, 1)", x.change(0, 1, 1), false);
        due("19 change(0, 2, 5002)", x.change(0, 2, 5002), true);
        due("19 change(0, 2, 5003)", x.change(0, 2, 5003), false);
        due("19 change(0, 2, -1)", x.change(0, 2, -1), false);
        due("19 change(0, 3, 5001)", x.change(0, 3, 5001), true);
        due("19 change(0, 3, 5003)", x.change(0, 3, 5003), false);
        due("19 change(0, 3, min)", x.change(0, 3, Integer.MIN_VALUE), false);
        due("19 change(2, 1, 10005)", x.change(2, 1, 10005), true);
        due("19 change(2, 1, 10007)", x.change(2, 1, 10007), false);
        due("19 change(2, 1, -1)", x.change(2, 1, -1), false);
        due("19 change(1, 0, 0)", x.change(1, 0, 0), true);
        for (int leaf : new int[] {-1, 3, 8, Integer.MIN_VALUE, Integer.MAX_VALUE}) {
            due("19 change(" + leaf + ", 0, 1)", x.change(leaf, 0, 1), false);
        }
        for (int what : new int[] {-1, 4, Integer.MIN_VALUE, Integer.MAX_VALUE}) {
            due("19 change(2, " + what + ", 1)", x.change(2, what, 1), false);
        }
        dueParts("19", x, 0, 10006, BAD, 5002, 5001);
        dueParts("19", x, 1, 0, BAD, 0, 0);
        dueParts("19", x, 2, 0, 10005, 0, 0);
    }

    private static void promise20() {
        SigmaDesk x = single();
        x.commit(1);
        x.respond(10);
        due("20 save()", x.save(), true);
        x.respond(11);
        due("20 extract()", x.extract(), 1);
        due("20 save() again", x.save(), true);
        due("20 extract() of one and the same", x.extract(), 0);
        // What is saved is a copy: changes afterwards do not reach it.
        x.change(0, 3, modQ(x.part(0, 3) + 1));
        due("20 the present one is not accepted", x.extract(), ORDER);
        due("20 save()", x.save(), true);
        x.respond(11);
        due("20 the saved one is not accepted", x.extract(), ORDER);
        x.save();
        x.commit(1);
        x.respond(12);
        due("20 a new commitment leaves the saved one", x.extract(), 1);
    }

    private static void promise21() {
        SigmaDesk x = single();
        x.commit(1);
        x.respond(1);
        due("21 nothing is saved", x.extract(), ORDER);
        x.save();
        x.commit(2);
        x.respond(2);
        due("21 other commitments", x.extract(), ORDER);
        for (int c : new int[] {0, 2, Q - 1}) {
            x.commit(1);
            x.respond(c);
            due("21 extract()", x.extract(), 1);
            due("21 witness(0)", x.witness(0), 7);
        }
        secondCommitmentDiffers();
        tellsByExtracting();
        eightLeaves();
        for (int x1 : new int[] {0, 1, 2501, Q - 1}) {
            extractFromParts(x1);
        }
    }

    private static void secondCommitmentDiffers() {
        SigmaDesk x = new SigmaDesk();
        x.equal(4, pow(4, 3), 9, pow(9, 4));
        x.accept();
        x.simulate(1, 1);
        int response = x.part(0, 3);
        int commitment = x.part(0, 0);
        x.save();
        // Accepted for both pairs, with the first commitment as it was and another second one.
        x.change(0, 2, 2);
        x.change(0, 3, modQ(response + 3));
        x.change(0, 1, simulated(9, pow(9, 4), 2, modQ(response + 3)));
        due("21 part(0, 0)", x.part(0, 0), commitment);
        due("21 verify()", x.verify(), true);
        due("21 only the second commitment differs", x.extract(), ORDER);
        due("21 it changes nothing", x.witness(0), UNKNOWN);
    }

    private static void tellsByExtracting() {
        // Found by hand-made transcripts: leaf 0 keeps its challenge, leaf 1 gives its witness away.
        SigmaDesk x = two(false);
        x.tell(0, 7);
        x.simulate(100, 3);
        x.save();
        x.change(1, 2, modQ(x.part(1, 2) + 9));
        x.change(1, 3, modQ(x.part(1, 3) + 99));
        due("21 verify()", x.verify(), true);
        due("21 extract()", x.extract(), 1);
        due("21 witness(1)", x.witness(1), 11);
        due("21 witness(0)", x.witness(0), 7);
        x.change(0, 2, modQ(x.part(0, 2) + 1));
        x.change(0, 3, modQ(x.part(0, 3) + 7));
        due("21 told ones are counted", x.extract(), 2);
        x.save();
        due("21 no challenge differs", x.extract(), 0);

        x = two(true);
        x.simulate(100, 3);
        x.save();
        x.change(1, 2, 109);
        x.change(1, 3, modQ(x.part(1, 3) + 99));
        due("21 an AND without a challenge", x.extract(), ORDER);
        due("21 it changes nothing", x.witness(1), UNKNOWN);
        x.change(0, 2, 109);
        x.change(0, 3, modQ(x.part(0, 3) + 63));
        due("21 extract()", x.extract(), 2);
        due("21 known()", x.known(), true);
        due("21 witness(0)", x.witness(0), 7);
        due("21 witness(1)", x.witness(1), 11);
        due("21 commit()", x.commit(1), 0);
    }

    private static void eightLeaves() {
        SigmaDesk x = new SigmaDesk();
        x.equal(4, pow(4, 1), 9, pow(9, 1));
        for (int i = 2; i <= 8; i++) {
            x.equal(4, pow(4, i), 9, pow(9, i));
            x.join(true);
        }
        x.accept();
        x.simulate(20, 1);
        x.save();
        for (int i = 0; i < 8; i++) {
            x.change(i, 2, 25);
            x.change(i, 3, modQ(x.part(i, 3) + 5 * (i + 1)));
        }
        due("21 extract() of eight leaves", x.extract(), 8);
        for (int i = 0; i < 8; i++) {
            due("21 witness(" + i + ")", x.witness(i), i + 1);
        }
    }

    private static void extractFromParts(int witness) {
        for (int step : new int[] {1, 2, 2500, Q - 1}) {
            SigmaDesk x = new SigmaDesk();
            x.equal(4, pow(4, witness), 9, pow(9, witness));
            x.accept();
            x.simulate(4444, 5);
            x.save();
            x.change(0, 2, modQ(4444 + step));
            x.change(0, 3, modQ(x.part(0, 3) + (long) step * witness));
            due("21 extract()", x.extract(), 1);
            due("21 witness(0)", x.witness(0), witness);
        }
    }
}
