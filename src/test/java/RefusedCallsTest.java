import java.util.ArrayList;
import java.util.LinkedHashMap;
import java.util.List;
import java.util.Map;
import java.util.function.Consumer;
import java.util.function.ToIntFunction;

/**
 * "A call that answers less than 0, or false, changes nothing": in many situations each call is made, and
 * when it is refused, all that can be seen of the object afterwards is as it is without that call. The
 * same holds for calls that only look.
 */
public final class RefusedCallsTest extends Check {
    private static final int FALSE = -9;
    private static final int ROWS = 25;

    private final Map<String, Consumer<Desk>> trees = new LinkedHashMap<>();
    private final Map<String, Consumer<Desk>> uses = new LinkedHashMap<>();
    private final Map<String, Consumer<Desk>> stacks = new LinkedHashMap<>();
    private final Map<String, ToIntFunction<Desk>> calls = new LinkedHashMap<>();
    private final Map<String, Integer> refused = new LinkedHashMap<>();

    public static void main(String[] args) {
        RefusedCallsTest test = new RefusedCallsTest();
        test.nameTrees();
        test.nameUses();
        test.nameStacks();
        test.nameCallsOfStatements();
        test.nameCallsOfTrees();
        test.nameCallsOfTranscripts();
        test.run();
        test.dueRefusalsOfEach();
        finish();
    }

    private void nameTrees() {
        trees.put("no tree", x -> { });
        trees.put("a leaf", x -> {
            x.leaf(4, pow(4, 1));
            x.accept();
        });
        trees.put("two pairs", x -> {
            x.equal(4, pow(4, 1), 9, pow(9, 1));
            x.accept();
        });
        trees.put("(a & b) | c", x -> stackThree(x, true, false));
        trees.put("(a | b) & c", x -> stackThree(x, false, true));
        trees.put("a & (b | c)", x -> {
            x.leaf(4, pow(4, 1));
            x.equal(9, pow(9, 2), 4, pow(4, 2));
            x.leaf(16, pow(16, 3));
            x.join(false);
            x.join(true);
            x.accept();
        });
    }

    private static void stackThree(Desk x, boolean inner, boolean outer) {
        x.leaf(4, pow(4, 1));
        x.equal(9, pow(9, 2), 4, pow(4, 2));
        x.join(inner);
        x.leaf(16, pow(16, 3));
        x.join(outer);
        x.accept();
    }

    /** What was done with the tree before; without a tree all of it is refused. */
    private void nameUses() {
        uses.put("nothing told", x -> { });
        uses.put("the last told", x -> x.tell(2, 3));
        uses.put("simulated", x -> x.simulate(9, 9));
        uses.put("simulated and saved", x -> {
            x.simulate(9, 9);
            x.save();
            x.simulate(10, 10);
        });
        uses.put("told", RefusedCallsTest::tellAll);
        uses.put("committed", x -> {
            tellAll(x);
            x.commit(9);
        });
        uses.put("committed with the last", x -> {
            x.tell(2, 3);
            x.tell(0, 1);
            x.commit(9);
            x.tell(1, 2);
        });
        uses.put("responded", x -> {
            tellAll(x);
            x.commit(9);
            x.respond(4000);
        });
        uses.put("responded twice", x -> {
            tellAll(x);
            x.commit(9);
            x.respond(4000);
            x.save();
            x.respond(4001);
        });
        uses.put("responded and changed", x -> {
            tellAll(x);
            x.commit(9);
            x.respond(4000);
            x.save();
            x.change(0, 0, 10006);
            x.change(0, 1, 10005);
            x.change(0, 2, 5002);
            x.change(0, 3, 5001);
        });
        uses.put("proved, saved and simulated", x -> {
            tellAll(x);
            x.prove(9);
            x.save();
            x.simulate(5002, 9);
        });
    }

    private static void tellAll(Desk x) {
        for (int i = 0; i < 3; i++) {
            x.tell(i, i + 1);
        }
    }

    private void nameStacks() {
        stacks.put("an empty stack", x -> { });
        stacks.put("a stack of one", x -> x.leaf(25, pow(25, 5)));
        stacks.put("a stack of two", x -> {
            x.leaf(25, pow(25, 5));
            x.equal(25, pow(25, 6), 4, pow(4, 6));
        });
        stacks.put("a stack of six", x -> {
            for (int i = 1; i <= 6; i++) {
                x.leaf(25, pow(25, i));
            }
        });
        stacks.put("a stack with 5 and 4 leaves", x -> {
            chain(x, 5, true);
            chain(x, 4, false);
        });
        stacks.put("a stack with 1 and 8 leaves", x -> {
            chain(x, 1, true);
            chain(x, 8, false);
        });
    }

    private static void chain(Desk x, int leaves, boolean all) {
        x.leaf(25, pow(25, 1));
        for (int i = 2; i <= leaves; i++) {
            x.leaf(25, pow(25, i));
            x.join(all);
        }
    }

    private void call(String name, ToIntFunction<Desk> call) {
        calls.put(name, call);
    }

    private static int number(boolean answer) {
        return answer ? 1 : FALSE;
    }

    private void nameCallsOfStatements() {
        int[] bad = {0, 1, 5, -4, 10007, 10011, Integer.MIN_VALUE};
        for (int n : bad) {
            call("power(" + n + ", 3)", x -> x.power(n, 3));
            call("leaf(" + n + ", 4)", x -> number(x.leaf(n, 4)));
            call("equal(" + n + ", 4, 9, 9)", x -> number(x.equal(n, 4, 9, 9)));
            call("equal(4, 4, " + n + ", 9)", x -> number(x.equal(4, 4, n, 9)));
            // 1 is an element: such a leaf is refused on a full stack alone.
            call("leaf(4, " + n + ")", x -> number(x.leaf(4, n)));
            call("equal(4, " + n + ", 9, 9)", x -> number(x.equal(4, n, 9, 9)));
            call("equal(4, 4, 9, " + n + ")", x -> number(x.equal(4, 4, 9, n)));
        }
        call("power(4, -1)", x -> x.power(4, -1));
        call("power(4, 5003)", x -> x.power(4, 5003));
        call("power(4, 5002)", x -> x.power(4, 5002));
        call("join(true)", x -> number(x.join(true)));
        call("join(false)", x -> number(x.join(false)));
        call("discard()", x -> number(x.discard()));
        call("accept()", Desk::accept);
    }

    private void nameCallsOfTrees() {
        for (int leaf : new int[] {-1, 0, 1, 2, 3, 8, Integer.MAX_VALUE}) {
            call("witness(" + leaf + ")", x -> x.witness(leaf));
            for (int e : new int[] {-1, 1, 2, 3, 4, 5002, 5003, 5004}) {
                call("tell(" + leaf + ", " + e + ")", x -> number(x.tell(leaf, e)));
            }
        }
        call("known()", x -> number(x.known()));
        for (int seed : new int[] {0, 9, -1}) {
            call("commit(" + seed + ")", x -> x.commit(seed));
            call("prove(" + seed + ")", x -> x.prove(seed));
        }
        for (int c : new int[] {-1, 0, 5002, 5003, Integer.MIN_VALUE, Integer.MAX_VALUE}) {
            call("respond(" + c + ")", x -> x.respond(c));
            call("simulate(" + c + ", 7)", x -> x.simulate(c, 7));
        }
    }

    private void nameCallsOfTranscripts() {
        call("hash()", Desk::hash);
        call("verify()", x -> number(x.verify()));
        call("challenge()", Desk::challenge);
        for (int leaf : new int[] {-1, 0, 1, 2, 3, 8, Integer.MIN_VALUE}) {
            for (int what = -1; what <= 4; what++) {
                int kind = what;
                call("part(" + leaf + ", " + what + ")", x -> x.part(leaf, kind));
                for (int v : new int[] {-1, 7, 5003, 10007}) {
                    call("change(" + leaf + ", " + what + ", " + v + ")",
                        x -> number(x.change(leaf, kind, v)));
                }
            }
        }
        call("save()", x -> number(x.save()));
        call("extract()", Desk::extract);
    }

    private void run() {
        for (Map.Entry<String, Consumer<Desk>> tree : trees.entrySet()) {
            for (Map.Entry<String, Consumer<Desk>> use : uses.entrySet()) {
                for (Map.Entry<String, Consumer<Desk>> stack : stacks.entrySet()) {
                    String name = tree.getKey() + ", " + use.getKey() + ", " + stack.getKey();
                    situation(name, tree.getValue().andThen(use.getValue()).andThen(stack.getValue()));
                }
            }
        }
    }

    private void situation(String name, Consumer<Desk> before) {
        Model without = new Model();
        before.accept(without);
        int leaves = without.leaves.size();
        List<int[]> saved = without.saved;
        List<Integer> due = allThatCanBeSeen(without, leaves, saved);
        List<String> inOneRun = new ArrayList<>();
        for (String call : calls.keySet()) {
            Model model = new Model();
            before.accept(model);
            int want = calls.get(call).applyAsInt(model);
            Desk desk = new RealDesk();
            before.accept(desk);
            due(name + ": " + call, calls.get(call).applyAsInt(desk), want);
            if (want < 0) {
                refused.merge(method(call), 1, Integer::sum);
            }
            if (want < 0 || onlyLooks(call)) {
                dueSame(name + ": after " + call, allThatCanBeSeen(desk, leaves, saved), due);
                inOneRun.add(call);
            }
        }
        for (int from = 0; from < inOneRun.size(); from += ROWS) {
            List<String> some = inOneRun.subList(from, Math.min(from + ROWS, inOneRun.size()));
            Desk desk = new RealDesk();
            before.accept(desk);
            for (String call : some) {
                calls.get(call).applyAsInt(desk);
            }
            dueSame(name + ": after " + some, allThatCanBeSeen(desk, leaves, saved), due);
        }
    }

    private static String method(String call) {
        return call.substring(0, call.indexOf('('));
    }

    private static boolean onlyLooks(String call) {
        return List.of("power", "witness", "known", "hash", "verify", "challenge", "part")
            .contains(method(call));
    }

    private static void dueSame(String name, List<Integer> got, List<Integer> want) {
        int at = 0;
        while (at < want.size() && at < got.size() && got.get(at).equals(want.get(at))) {
            at++;
        }
        due(name + ", answers as without it", at, want.size());
        due(name + ", answers in all", got.size(), want.size());
    }

    /** A long run of calls with its answers: those that look come first, then those that change things. */
    private static List<Integer> allThatCanBeSeen(Desk x, int leaves, List<int[]> saved) {
        List<Integer> seen = new ArrayList<>();
        look(x, leaves, seen);
        seen.add(x.extract());
        look(x, leaves, seen);
        for (int c : new int[] {77, 0}) {
            seen.add(x.respond(c));
            look(x, leaves, seen);
        }
        seen.add(x.extract());
        if (saved != null) {
            putBack(x, saved);
            seen.add(x.extract());
            look(x, leaves, seen);
        }
        seen.add(x.commit(3));
        seen.add(x.respond(5));
        look(x, leaves, seen);
        seen.add(x.simulate(9, 4));
        look(x, leaves, seen);
        lookAtStack(x, seen);
        return seen;
    }

    /** The saved transcript shows itself by extract() when the present one is the same again. */
    private static void putBack(Desk x, List<int[]> saved) {
        for (int i = 0; i < saved.size(); i++) {
            int[] row = saved.get(i);
            x.change(i, 2, row[0]);
            x.change(i, 3, row[1]);
            for (int k = 2; k < row.length; k++) {
                x.change(i, k - 2, row[k]);
            }
        }
    }

    private static void look(Desk x, int leaves, List<Integer> seen) {
        seen.add(number(x.known()));
        seen.add(x.hash());
        seen.add(number(x.verify()));
        seen.add(x.challenge());
        // One leaf more than there is, lest a refused call made one.
        for (int i = 0; i <= leaves; i++) {
            seen.add(x.witness(i));
            for (int what = 0; what < 4; what++) {
                seen.add(x.part(i, what));
            }
        }
    }

    private static void lookAtStack(Desk x, List<Integer> seen) {
        int room = 0;
        while (room < 7 && x.leaf(4, 4)) {
            room++;
        }
        seen.add(room);
        for (int i = 0; i < room; i++) {
            x.discard();
        }
        int joins = 0;
        while (joins < 7 && x.join(false)) {
            joins++;
        }
        seen.add(joins);
        int leaves = x.accept();
        for (int i = 0; i < 7 && leaves < 0; i++) {
            seen.add(number(x.discard()));
            leaves = x.accept();
        }
        seen.add(leaves);
        look(x, leaves, seen);
        x.simulate(5002, 1);
        look(x, leaves, seen);
    }

    /** A method that was never refused here would not have been looked at. */
    private void dueRefusalsOfEach() {
        for (String call : calls.keySet()) {
            due("refusals of " + method(call) + ", more than 50", refused.getOrDefault(method(call), 0) > 50, true);
        }
    }
}
