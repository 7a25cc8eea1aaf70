import java.util.function.LongSupplier;

/** Long runs of calls, each answered as by the model; the runs are the same ones every time. */
public final class ModelTest {
    private static final int RUNS = 120;
    private static final int CALLS = 180;

    private static long seed;
    private static int wrong = 0;
    private static int asked = 0;

    public static void main(String[] args) {
        for (int run = 0; run < RUNS && wrong == 0; run++) {
            seed = 1000003L * run + 17;
            oneRun(run);
        }
        System.out.println("ModelTest: " + (asked - wrong) + " of " + asked + " answers are as the model's");
        if (wrong > 0) {
            System.exit(1);
        }
    }

    private static void oneRun(int run) {
        TreeKayles x = new TreeKayles();
        Model model = new Model();
        StringBuilder calls = new StringBuilder("run " + run + ":");
        for (int call = 0; call < CALLS && wrong == 0; call++) {
            change(x, model, calls, run % 4);
            if (model.count(1) == 0) {
                sameLoad(x, model, calls, run % 4);
            }
            look(x, model, calls);
            if (call % 3 == 0) {
                same(calls, " digest()", x::digest, model::digest);
            }
        }
    }

    private static int below(int bound) {
        seed = seed * 6364136223846793005L + 1442695040888963407L;
        return (int) ((seed >>> 33) % bound);
    }

    /** Mostly a node, now and then none. */
    private static int someNode(Model model) {
        int nodes = model.count(0);
        return nodes == 0 || below(25) == 0 ? below(17) - 2 : below(nodes);
    }

    private static void change(TreeKayles x, Model model, StringBuilder calls, int kind) {
        int one = someNode(model);
        int other = someNode(model);
        int slot = below(20) == 0 ? below(5) - 2 : below(2);
        switch (below(24)) {
            case 0, 1, 2, 3 -> {
                int to = kind == 0 && below(3) > 0 ? -1 : one;
                same(calls, " node(" + to + ")", () -> x.node(to), () -> model.node(to));
            }
            case 4, 5, 6, 7 -> same(calls, " join(" + one + ", " + other + ")",
                    () -> x.join(one, other), () -> model.join(one, other));
            case 8, 9 -> {
                int mirror = model.mirror(0);
                int from = mirror > 0 && below(2) == 0 ? mirror / 100 : one;
                int to = from == one ? neighbourOf(model, one, other) : mirror % 100;
                same(calls, " cut(" + from + ", " + to + ")", () -> x.cut(from, to), () -> model.cut(from, to));
            }
            case 10, 11 -> same(calls, " take(" + one + ")", () -> x.take(one), () -> model.take(one));
            case 12 -> same(calls, " reply()", x::reply, model::reply);
            case 13, 14 -> same(calls, " again()", x::again, model::again);
            case 15 -> sameLoad(x, model, calls, kind);
            case 16 -> same(calls, " write()", x::write, model::write);
            case 17 -> same(calls, " keep(" + slot + ")", () -> x.keep(slot), () -> model.keep(slot));
            case 18 -> same(calls, " goBack(" + slot + ")", () -> x.goBack(slot), () -> model.goBack(slot));
            case 19, 20 -> same(calls, " undo()", x::undo, model::undo);
            case 21 -> {
                if (below(8) > 0) {
                    same(calls, " write()", x::write, model::write);
                }
                same(calls, " load()", x::load, model::load);
            }
            case 22 -> {
                int code = below(4) == 0 ? below(110) + 25 : 'a' + below(14);
                same(calls, " append(" + code + ")", () -> x.append(code), () -> model.append(code));
            }
            default -> same(calls, " firstError()", x::firstError, model::firstError);
        }
    }

    private static int neighbourOf(Model model, int node, int otherwise) {
        if (node < 0 || node >= model.count(0)) {
            return otherwise;
        }
        int neighbours = model.nodeOf(node, 1);
        return neighbours == 0 ? otherwise : Integer.numberOfTrailingZeros(neighbours);
    }

    private static void sameLoad(TreeKayles x, Model model, StringBuilder calls, int kind) {
        same(calls, " clearBuffer()", x::clearBuffer, model::clearBuffer);
        int nodes = Math.max(below(15), below(15));
        for (int node = 0; node < nodes; node++) {
            int lesser = kind == 1 ? node / 2 : kind == 2 ? Math.max(0, node - 1 - below(3)) : below(node + 1);
            int code = node == 0 || lesser == node || below(5) == 0 ? '.' : 'a' + lesser;
            same(calls, " append(" + code + ")", () -> x.append(code), () -> model.append(code));
        }
        same(calls, " load()", x::load, model::load);
    }

    private static void look(TreeKayles x, Model model, StringBuilder calls) {
        int one = someNode(model);
        int other = someNode(model);
        int what = below(10) == 0 ? below(16) - 2 : below(6);
        int mask = below(1 << 14) & (below(3) == 0 ? -1 : there(model));
        int rank = below(6) - 1;
        same(calls, " nodeOf(" + one + ", " + what + ")", () -> x.nodeOf(one, what), () -> model.nodeOf(one, what));
        same(calls, " tree(" + other / 4 + ", " + what + ")",
                () -> x.tree(other / 4, what), () -> model.tree(other / 4, what));
        same(calls, " count(" + (what + rank) + ")", () -> x.count(what + rank), () -> model.count(what + rank));
        same(calls, " ifJoined(" + one + ", " + other + ")",
                () -> x.ifJoined(one, other), () -> model.ifJoined(one, other));
        same(calls, " value(" + mask + ")", () -> x.value(mask), () -> model.value(mask));
        same(calls, " mirror(" + rank + ")", () -> x.mirror(rank), () -> model.mirror(rank));
        same(calls, " length(true)", () -> x.length(true), () -> model.length(true));
        same(calls, " length(false)", () -> x.length(false), () -> model.length(false));
        same(calls, " best()", x::best, model::best);
        same(calls, " openingShare()", () -> Double.doubleToLongBits(x.openingShare()),
                () -> Double.doubleToLongBits(model.openingShare()));
    }

    private static int there(Model model) {
        int mask = 0;
        for (int node = 0; node < model.count(0); node++) {
            mask |= model.nodeOf(node, 0) << node;
        }
        return mask;
    }

    private static void same(StringBuilder calls, String call, LongSupplier program, LongSupplier model) {
        asked++;
        String got = answer(program);
        String want = answer(model);
        calls.append(call);
        if (!got.equals(want) && wrong++ == 0) {
            System.out.println(calls);
            System.out.println("answered " + got + ", the model says " + want);
        }
    }

    private static String answer(LongSupplier call) {
        try {
            return "" + call.getAsLong();
        } catch (RuntimeException e) {
            return e.getClass().getSimpleName();
        }
    }
}
