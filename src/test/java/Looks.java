import java.util.ArrayList;
import java.util.List;
import java.util.function.LongSupplier;

/** What can be looked at in an object, by its own answers. */
final class Looks {
    private Looks() {
    }

    /** An answer, or the name of the exception that the call throws. */
    static String answer(LongSupplier call) {
        try {
            return "" + call.getAsLong();
        } catch (RuntimeException e) {
            return e.getClass().getSimpleName();
        }
    }

    /** The answers of all looks but digest(), with one rank or node beyond the last. */
    static List<String> all(TreeKayles x) {
        List<String> answers = new ArrayList<>();
        int nodes = x.count(0);
        for (int what = 0; what < 12; what++) {
            answers.add("count(" + what + ") " + x.count(what));
        }
        for (int what = 0; what < 6; what++) {
            for (int node = 0; node < nodes; node++) {
                answers.add("nodeOf(" + node + ", " + what + ") " + x.nodeOf(node, what));
            }
            for (int tree = 0; tree < x.count(3); tree++) {
                answers.add("tree(" + tree + ", " + what + ") " + x.tree(tree, what));
            }
        }
        for (int rank = 0; rank < 8; rank++) {
            answers.add("mirror(" + rank + ") " + x.mirror(rank));
        }
        for (int node = 1; node < nodes; node++) {
            answers.add("ifJoined(" + (node - 1) + ", " + node + ") " + x.ifJoined(node - 1, node));
            answers.add("value(" + (1 << node) + ") " + valueOrNone(x, 1 << node));
        }
        answers.add("best() " + x.best());
        answers.add("length(true) " + x.length(true));
        answers.add("length(false) " + x.length(false));
        answers.add("openingShare() " + x.openingShare());
        answers.add("firstError() " + x.firstError());
        return answers;
    }

    private static String valueOrNone(TreeKayles x, int mask) {
        return answer(() -> x.value(mask));
    }

    /** The numbers, the edges and the digest: what tells an object from nearly every other one in a few calls. */
    static List<String> few(TreeKayles x) {
        List<String> answers = new ArrayList<>();
        for (int what : new int[] {0, 1, 2, 8, 9, 11}) {
            answers.add("count(" + what + ") " + x.count(what));
        }
        for (int node = 0; node < x.count(0); node++) {
            answers.add("nodeOf(" + node + ", 1) " + x.nodeOf(node, 1));
        }
        answers.add("digest() " + x.digest());
        return answers;
    }

    /** The digest as the document tells it, from the object's own answers and from what no look tells. */
    static long digest(TreeKayles x, int slotZero, int slotOne, String buffer) {
        List<Long> values = new ArrayList<>();
        for (int what = 0; what < 12; what++) {
            values.add((long) x.count(what));
        }
        for (int node = 0; node < x.count(0); node++) {
            for (int what = 0; what < 6; what++) {
                values.add((long) x.nodeOf(node, what));
            }
        }
        for (int tree = 0; tree < x.count(3); tree++) {
            for (int what = 0; what < 6; what++) {
                values.add((long) x.tree(tree, what));
            }
        }
        values.add((long) x.best());
        values.add((long) x.length(true));
        values.add((long) x.length(false));
        for (int rank = 0; rank < 4; rank++) {
            values.add((long) x.mirror(rank));
        }
        if (x.count(0) > 0) {
            values.add((long) x.ifJoined(0, x.count(0) - 1));
        }
        values.add(Double.doubleToLongBits(x.openingShare()));
        values.add((long) slotZero);
        values.add((long) slotOne);
        values.add((long) buffer.length());
        for (char code : buffer.toCharArray()) {
            values.add((long) code);
        }
        return hash(values);
    }

    private static long hash(List<Long> values) {
        long hash = 3221;
        for (long value : values) {
            hash = 31 * hash + value;
        }
        return hash;
    }
}
