import java.util.ArrayList;
import java.util.List;
import java.util.Set;
import java.util.TreeSet;
import java.util.function.Supplier;
import java.util.function.ToLongFunction;

/** The term "Exceptions": which one is thrown if several apply, and that nothing is changed then; nor by looks. */
public final class BoundsOfExceptionsTest {
    private static final Due due = new Due();

    /** All that the document's throws clauses name; a call must be found here for each. */
    private static final Set<String> THROWS = new TreeSet<>(List.of(
            "node IndexOutOfBoundsException", "node IllegalStateException",
            "join IndexOutOfBoundsException", "join IllegalStateException",
            "cut IndexOutOfBoundsException", "cut IllegalStateException",
            "take IndexOutOfBoundsException", "take IllegalStateException",
            "reply IllegalStateException",
            "append IllegalArgumentException", "append IllegalStateException",
            "load IllegalArgumentException", "keep IllegalArgumentException",
            "goBack IllegalArgumentException", "goBack IllegalStateException",
            "undo IllegalStateException",
            "nodeOf IndexOutOfBoundsException", "nodeOf IllegalArgumentException",
            "tree IndexOutOfBoundsException", "tree IllegalArgumentException",
            "count IllegalArgumentException", "mirror IllegalArgumentException",
            "ifJoined IndexOutOfBoundsException", "value IllegalArgumentException"));

    /** A call by its name, and whether it changes nothing even if it does not throw. */
    private record Call(String name, String arguments, boolean isLook, ToLongFunction<TreeKayles> run) {
        String told() {
            return name + "(" + arguments + ")";
        }
    }

    public static void main(String[] args) throws IllegalAccessException {
        due.runEach(BoundsOfExceptionsTest.class);
        due.end("BoundsOfExceptionsTest");
    }

    // ---- the one that is named first

    private static void exceptionsNodeBeyondInAFullForest() {
        TreeKayles x = Due.forest(Due.lone(14));
        due.failsIndex("node(14)", x, () -> x.node(14));
        due.failsIndex("node(-2)", x, () -> x.node(-2));
    }

    private static void exceptionsNodeToATakenOneInAFullForest() {
        TreeKayles x = Due.forest(Due.lone(14));
        x.take(3);
        due.failsState("node(3)", x, () -> x.node(3));
    }

    private static void exceptionsJoinANodeBeyondToATakenOne() {
        TreeKayles x = Due.forest("..");
        x.take(0);
        due.failsIndex("join(0, 2)", x, () -> x.join(0, 2));
        due.failsIndex("join(2, 0)", x, () -> x.join(2, 0));
    }

    private static void exceptionsJoinANodeBeyondToItself() {
        TreeKayles x = Due.forest("..");
        due.failsIndex("join(2, 2)", x, () -> x.join(2, 2));
        due.failsIndex("join(-1, -1)", x, () -> x.join(-1, -1));
    }

    private static void exceptionsCutANodeBeyondFromATakenOne() {
        TreeKayles x = Due.forest(".a");
        x.take(0);
        due.failsIndex("cut(0, 2)", x, () -> x.cut(0, 2));
        due.failsIndex("cut(2, 0)", x, () -> x.cut(2, 0));
    }

    private static void exceptionsCutANodeBeyondFromItself() {
        TreeKayles x = Due.forest(".a");
        due.failsIndex("cut(2, 2)", x, () -> x.cut(2, 2));
        due.failsIndex("cut(-1, -1)", x, () -> x.cut(-1, -1));
    }

    private static void exceptionsAppendAWrongCodeToAFullBuffer() {
        TreeKayles x = new TreeKayles();
        Due.type(x, "..............");
        due.failsArgument("append(32)", x, () -> x.append(32));
        due.failsArgument("append(127)", x, () -> x.append(127));
        due.failsState("append(33)", x, () -> x.append(33));
    }

    private static void exceptionsGoBackToASlotOutOfRangeWithoutSnapshots() {
        TreeKayles x = new TreeKayles();
        due.failsArgument("goBack(-1)", x, () -> x.goBack(-1));
        due.failsArgument("goBack(2)", x, () -> x.goBack(2));
    }

    private static void exceptionsNodeOfANodeAndAPropertyBeyond() {
        TreeKayles x = Due.forest("..");
        due.failsIndex("nodeOf(2, 6)", x, () -> x.nodeOf(2, 6));
        due.failsIndex("nodeOf(-1, -1)", x, () -> x.nodeOf(-1, -1));
        due.failsArgument("nodeOf(1, 6)", x, () -> x.nodeOf(1, 6));
    }

    private static void exceptionsTreeAndAPropertyBeyond() {
        TreeKayles x = Due.forest("..");
        due.failsIndex("tree(2, 6)", x, () -> x.tree(2, 6));
        due.failsIndex("tree(-1, -1)", x, () -> x.tree(-1, -1));
        due.failsArgument("tree(1, 6)", x, () -> x.tree(1, 6));
    }

    // ---- nothing is changed

    private static void exceptionsChangeNothingInANewObject() {
        changesNothing(TreeKayles::new);
    }

    private static void exceptionsChangeNothingInAGame() {
        changesNothing(BoundsOfExceptionsTest::game);
    }

    private static void exceptionsChangeNothingInAFullGame() {
        changesNothing(BoundsOfExceptionsTest::fullGame);
    }

    private static void exceptionsChangeNothingWhenAllWereTaken() {
        changesNothing(BoundsOfExceptionsTest::endOfAGame);
    }

    private static void exceptionsChangeNothingInAForestThatCanNotBeTold() {
        changesNothing(BoundsOfExceptionsTest::withoutAText);
    }

    private static void exceptionsEachOfTheDocumentWasMet() {
        Set<String> met = new TreeSet<>();
        List<Supplier<TreeKayles>> states = List.of(TreeKayles::new, BoundsOfExceptionsTest::game,
                BoundsOfExceptionsTest::fullGame, BoundsOfExceptionsTest::endOfAGame);
        for (Supplier<TreeKayles> state : states) {
            for (Call call : calls(state.get().count(0))) {
                TreeKayles x = state.get();
                String answer = Looks.answer(() -> call.run.applyAsLong(x));
                if (answer.endsWith("Exception")) {
                    met.add(call.name + " " + answer);
                }
            }
        }
        for (String one : THROWS) {
            due.is("met: " + one, 1, met.contains(one) ? 1 : 0);
        }
        met.removeAll(THROWS);
        due.is("others: " + met, 0, met.size());
    }

    /** A tree of which a part was taken, lone nodes, both slots, a text without an error, four saved states. */
    private static TreeKayles game() {
        TreeKayles x = Due.forest(".abbd.f");
        x.keep(1);
        x.take(6);
        x.keep(0);
        x.take(0);
        x.node(3);
        Due.type(x, ".a.");
        return x;
    }

    /** Fourteen nodes, a part taken, six saved states and more dropped ones, a full buffer with an error. */
    private static TreeKayles fullGame() {
        TreeKayles x = Due.forest(Due.path(13));
        x.node(2);
        x.cut(6, 7);
        x.keep(0);
        x.take(0);
        x.cut(3, 4);
        x.join(3, 9);
        x.take(12);
        x.again();
        x.take(7);
        x.take(0);
        Due.type(x, "..abz..!~....n");
        return x;
    }

    private static TreeKayles endOfAGame() {
        TreeKayles x = Due.forest(Due.star(5));
        x.keep(1);
        x.take(0);
        return x;
    }

    private static TreeKayles withoutAText() {
        TreeKayles x = Due.forest("....");
        x.join(0, 3);
        x.join(1, 3);
        x.take(2);
        Due.type(x, "zz");
        return x;
    }

    private static void changesNothing(Supplier<TreeKayles> state) {
        List<List<String>> before = probes(state, x -> 0);
        for (Call call : calls(state.get().count(0))) {
            TreeKayles tried = state.get();
            String answer = Looks.answer(() -> call.run.applyAsLong(tried));
            boolean isRefused = answer.endsWith("Exception") || call.name.equals("write") && answer.equals("-1");
            if (call.isLook || isRefused) {
                isSame(call.told() + " " + answer, before, probes(state, call.run));
            }
        }
    }

    private static void isSame(String call, List<List<String>> before, List<List<String>> behind) {
        for (int probe = 0; probe < before.size(); probe++) {
            List<String> changed = new ArrayList<>(behind.get(probe));
            changed.removeAll(before.get(probe));
            due.is("behind " + call + ", probe " + probe + ": " + changed, 1,
                    before.get(probe).equals(behind.get(probe)) ? 1 : 0);
        }
    }

    /** What can be seen of a state behind a call: at once, and by what comes back later. */
    private static List<List<String>> probes(Supplier<TreeKayles> state, ToLongFunction<TreeKayles> call) {
        List<List<String>> seen = new ArrayList<>();
        seen.add(Looks.all(behind(state, call)));
        seen.add(Looks.few(behind(state, call)));
        seen.add(againAndUndo(behind(state, call)));
        seen.add(undoAndAgain(behind(state, call)));
        seen.add(slots(behind(state, call)));
        seen.add(buffer(behind(state, call)));
        return seen;
    }

    private static TreeKayles behind(Supplier<TreeKayles> state, ToLongFunction<TreeKayles> call) {
        TreeKayles x = state.get();
        Looks.answer(() -> call.applyAsLong(x));
        return x;
    }

    private static List<String> againAndUndo(TreeKayles x) {
        List<String> seen = new ArrayList<>();
        seen.add("again() " + x.again());
        seen.addAll(Looks.few(x));
        for (int time = 0; time < 7; time++) {
            seen.add("undo() " + Looks.answer(x::undo));
            seen.addAll(Looks.few(x));
        }
        return seen;
    }

    /** With all edges: each saved state is played again. */
    private static List<String> undoAndAgain(TreeKayles x) {
        List<String> seen = new ArrayList<>();
        for (int time = 0; time < 7; time++) {
            seen.add("undo() " + Looks.answer(x::undo));
            seen.add("again() " + x.again());
            seen.addAll(Looks.few(x));
            x.undo();
        }
        return seen;
    }

    private static List<String> slots(TreeKayles x) {
        List<String> seen = new ArrayList<>();
        for (int slot = 0; slot < 2; slot++) {
            int from = slot;
            seen.add("goBack() " + Looks.answer(() -> x.goBack(from)));
            seen.addAll(Looks.few(x));
            seen.add("again() " + x.again());
            seen.addAll(Looks.few(x));
        }
        return seen;
    }

    private static List<String> buffer(TreeKayles x) {
        List<String> seen = new ArrayList<>();
        seen.add("firstError() " + x.firstError());
        seen.add("load() " + Looks.answer(x::load));
        seen.addAll(Looks.few(x));
        seen.add("write() " + x.write());
        seen.addAll(Looks.few(x));
        return seen;
    }

    // ---- calls of all kinds, from one below the least argument to one beyond the greatest

    private static List<Call> calls(int nodes) {
        List<Call> calls = new ArrayList<>();
        int[] some = {Integer.MIN_VALUE, -2, -1, 0, 1, 2, nodes - 1, nodes, 14, Integer.MAX_VALUE};
        for (int one : some) {
            add(calls, "node", one, false, x -> x.node(one));
            add(calls, "take", one, false, x -> x.take(one));
            add(calls, "keep", one, false, x -> x.keep(one));
            add(calls, "goBack", one, false, x -> x.goBack(one));
            add(calls, "mirror", one, true, x -> x.mirror(one));
        }
        for (int what = -1; what <= 12; what++) {
            int fixed = what;
            add(calls, "count", fixed, true, x -> x.count(fixed));
        }
        for (int mask : new int[] {-1, 0, 1, 2, 3, 4, 1 << 6, 1 << 14, (1 << 14) - 1, Integer.MIN_VALUE}) {
            add(calls, "value", mask, true, x -> x.value(mask));
        }
        for (int code : new int[] {-1, 32, 33, 46, 126, 127}) {
            add(calls, "append", code, false, x -> x.append(code));
        }
        addPairs(calls, nodes);
        addWithoutArguments(calls);
        return calls;
    }

    private static void addPairs(List<Call> calls, int nodes) {
        int[] ends = {-1, 0, 1, 3, nodes - 1, nodes};
        for (int one : ends) {
            for (int other : ends) {
                String told = one + ", " + other;
                calls.add(new Call("join", told, false, x -> x.join(one, other)));
                calls.add(new Call("cut", told, false, x -> x.cut(one, other)));
                calls.add(new Call("ifJoined", told, true, x -> x.ifJoined(one, other)));
            }
            for (int what = -1; what <= 6; what++) {
                int fixed = what;
                String told = one + ", " + fixed;
                calls.add(new Call("nodeOf", told, true, x -> x.nodeOf(one, fixed)));
                calls.add(new Call("tree", told, true, x -> x.tree(one, fixed)));
            }
        }
    }

    private static void addWithoutArguments(List<Call> calls) {
        calls.add(new Call("reply", "", false, TreeKayles::reply));
        calls.add(new Call("load", "", false, TreeKayles::load));
        calls.add(new Call("write", "", false, TreeKayles::write));
        calls.add(new Call("undo", "", false, TreeKayles::undo));
        calls.add(new Call("firstError", "", true, TreeKayles::firstError));
        calls.add(new Call("best", "", true, TreeKayles::best));
        calls.add(new Call("length", "true", true, x -> x.length(true)));
        calls.add(new Call("length", "false", true, x -> x.length(false)));
        calls.add(new Call("openingShare", "", true, x -> Double.doubleToLongBits(x.openingShare())));
        calls.add(new Call("digest", "", true, TreeKayles::digest));
    }

    private static void add(List<Call> calls, String name, int argument, boolean isLook,
            ToLongFunction<TreeKayles> run) {
        calls.add(new Call(name, "" + argument, isLook, run));
    }
}
