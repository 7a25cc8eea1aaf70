import java.util.ArrayList;
import java.util.List;

/** Promises 16 to 25: nodeOf, tree, count, best, length, mirror, ifJoined, value, openingShare, digest. */
public final class LooksTest {
    /** The values of ways of 0 to 14 nodes: the well-known row of Dawson's chess. */
    private static final int[] WAY_VALUES = {0, 1, 1, 2, 0, 3, 1, 1, 0, 3, 3, 2, 2, 4, 0};

    private static final Due due = new Due();

    public static void main(String[] args) {
        promise16NodeOf();
        promise16NodeOfATakenNode();
        promise16NodeOfMisere();
        promise16NodeOfFails();
        promise17Tree();
        promise17TreeClasses();
        promise17TreeClassesOfAllTrees();
        promise17TreeMirrorsAndWays();
        promise17TreeFails();
        promise18Count();
        promise18CountOfWays();
        promise18CountMisere();
        promise18CountFails();
        promise19Best();
        promise20Length();
        promise21Mirror();
        promise22IfJoined();
        promise22IfJoinedFails();
        promise23Value();
        promise24OpeningShare();
        promise25Digest();
        promise25DigestOfOneNode();
        promise25DigestOfAStar();
        promise25DigestOfTheWholeState();
        due.end("LooksTest");
    }

    private static void promise16NodeOf() {
        TreeKayles x = Due.forest(".ab.d");
        long before = x.digest();
        due.is("there", 1, x.nodeOf(2, 0));
        due.is("neighbours of 1", 0b00101, x.nodeOf(1, 1));
        due.is("neighbours of 4", 0b01000, x.nodeOf(4, 1));
        due.is("tree of 2", 0, x.nodeOf(2, 2));
        due.is("tree of 4", 1, x.nodeOf(4, 2));
        due.is("value left by 0: one node, two nodes", 0, x.nodeOf(0, 3));
        due.is("value left by 1: two nodes", 1, x.nodeOf(1, 3));
        due.is("value left by 3: a way of three", 2, x.nodeOf(3, 3));
        due.is("choosing 0 wins", 1, x.nodeOf(0, 4));
        due.is("choosing 1 loses", 0, x.nodeOf(1, 4));
        due.is("choosing 3 loses", 0, x.nodeOf(3, 4));
        due.is("nothing is changed", before, x.digest());
        x.take(0);
        due.is("trees have new numbers: 2", 0, x.nodeOf(2, 2));
        due.is("neighbours of 2: taken ones do not count", 0, x.nodeOf(2, 1));
        due.is("trees: 3", 1, x.nodeOf(3, 2));
    }

    private static void promise16NodeOfATakenNode() {
        TreeKayles x = Due.forest(".ab");
        x.take(0);
        for (int node = 0; node < 2; node++) {
            for (int what = 0; what < 6; what++) {
                due.is("nodeOf(" + node + ", " + what + ")", what < 2 ? 0 : -1, x.nodeOf(node, what));
            }
        }
        due.is("2 is left: it wins", 1, x.nodeOf(2, 4));
        due.is("2 is left: it loses the misere game", 0, x.nodeOf(2, 5));
    }

    private static void promise16NodeOfMisere() {
        TreeKayles one = Due.forest(".");
        due.is("the last node: normal", 1, one.nodeOf(0, 4));
        due.is("the last node: misere", 0, one.nodeOf(0, 5));
        TreeKayles two = Due.forest("..");
        due.is("two nodes: normal", 0, two.nodeOf(1, 4));
        due.is("two nodes: misere", 1, two.nodeOf(1, 5));
        TreeKayles way = Due.forest(Due.path(3));
        due.is("a way of three, an end: misere", 1, way.nodeOf(0, 5));
        due.is("a way of three, the middle: misere", 0, way.nodeOf(1, 5));
        due.is("a way of three, an end: normal", 0, way.nodeOf(0, 4));
        due.is("a way of three, the middle: normal", 1, way.nodeOf(1, 4));
        TreeKayles star = Due.forest(Due.star(4));
        due.is("a star, a leaf leaves three: misere", 1, star.nodeOf(4, 5));
        due.is("a star, a leaf leaves three: normal", 0, star.nodeOf(4, 4));
        due.is("a star, the middle: misere", 0, star.nodeOf(0, 5));
        due.is("three lone nodes: misere", 0, Due.forest("...").nodeOf(2, 5));
        due.is("four lone nodes: misere", 1, Due.forest("....").nodeOf(2, 5));
    }

    private static void promise16NodeOfFails() {
        TreeKayles x = Due.forest(".a");
        due.failsIndex("nodeOf(-1, 0)", x, () -> x.nodeOf(-1, 0));
        due.failsIndex("nodeOf(2, 0)", x, () -> x.nodeOf(2, 0));
        due.failsIndex("nodeOf(2, 6)", x, () -> x.nodeOf(2, 6));
        due.failsArgument("nodeOf(0, -1)", x, () -> x.nodeOf(0, -1));
        due.failsArgument("nodeOf(0, 6)", x, () -> x.nodeOf(0, 6));
        x.take(0);
        due.failsArgument("nodeOf(0, 6) of a taken node", x, () -> x.nodeOf(0, 6));
    }

    private static void promise17Tree() {
        TreeKayles x = Due.forest("..ba.");
        due.is("tree 0: nodes", 0b01001, x.tree(0, 0));
        due.is("tree 1: nodes", 0b00110, x.tree(1, 0));
        due.is("tree 2: nodes", 0b10000, x.tree(2, 0));
        due.is("tree 1: how many", 2, x.tree(1, 1));
        due.is("tree 2: how many", 1, x.tree(2, 1));
        due.is("tree 2: value", 1, x.tree(2, 2));
        x.take(0);
        due.is("the least nodes that are there: tree 0", 0b00110, x.tree(0, 0));
        due.is("tree 1", 0b10000, x.tree(1, 0));
        due.failsIndex("tree(2, 0)", x, () -> x.tree(2, 0));
        for (int nodes = 1; nodes <= 14; nodes++) {
            due.is("the value of a way of " + nodes, WAY_VALUES[nodes], Due.forest(Due.path(nodes)).tree(0, 2));
        }
        for (int leaves = 1; leaves <= 13; leaves++) {
            int want = leaves % 2 == 0 ? 2 : 1;
            due.is("the value of a star of " + leaves, want, Due.forest(Due.star(leaves)).tree(0, 2));
        }
    }

    private static void promise17TreeClasses() {
        TreeKayles x = Due.forest(".aa.de...i");
        due.is("a way told from its middle", 0, x.tree(0, 3));
        due.is("a way told from its end", 0, x.tree(1, 3));
        due.is("a lone node", 2, x.tree(2, 3));
        due.is("another one", 2, x.tree(3, 3));
        due.is("two nodes", 4, x.tree(4, 3));
        due.is("classes", 3, x.count(4));
        TreeKayles way = Due.forest(".abc.eee");
        due.is("a star of four is no way of four", 1, way.tree(1, 3));
        due.is("legs of 1, 1, 3, told in two ways", 0, Due.forest(".aaade.gggik").tree(1, 3));
        due.is("legs of 1, 1, 3 and of 1, 2, 2", 1, Due.forest(".aaade.ggigk").tree(1, 3));
        due.is("a branched tree of seven and a way", 2, Due.forest(".aabbcc.hijklm").count(4));
        TreeKayles seven = Due.forest(".aabbcc.hiikll");
        due.is("a branched tree, told from its middle and from a leaf", 0, seven.tree(1, 3));
        due.is("one class", 1, seven.count(4));
        seven.take(1);
        due.is("classes of what is left", 2, seven.count(4));
        due.is("a class of its own", 1, seven.tree(1, 3));
    }

    /** How many classes of trees there are of 1 to 7 nodes is well-known. */
    private static void promise17TreeClassesOfAllTrees() {
        int[] known = {0, 1, 1, 1, 2, 3, 6, 11};
        for (int nodes = 1; nodes <= 7; nodes++) {
            List<String> classes = new ArrayList<>();
            collectClasses(".", nodes, classes);
            due.is("classes of trees of " + nodes + " nodes", known[nodes], classes.size());
        }
    }

    private static void collectClasses(String text, int nodes, List<String> classes) {
        if (text.length() == nodes) {
            for (String other : classes) {
                if (Due.forest(other + moved(text)).tree(1, 3) == 0) {
                    return;
                }
            }
            classes.add(text);
            return;
        }
        for (int lesser = 0; lesser < text.length(); lesser++) {
            collectClasses(text + (char) ('a' + lesser), nodes, classes);
        }
    }

    /** The text of a tree behind another one of as many nodes. */
    private static String moved(String text) {
        StringBuilder moved = new StringBuilder();
        for (char letter : text.toCharArray()) {
            moved.append(letter == '.' ? letter : (char) (letter + text.length()));
        }
        return moved.toString();
    }

    private static void promise17TreeMirrorsAndWays() {
        TreeKayles x = Due.forest(".abc.eeeef");
        due.is("a way of four: mirrors", 1, x.tree(0, 4));
        due.is("a way of four: longest way", 3, x.tree(0, 5));
        due.is("a star with a long leg: mirrors", 0, x.tree(1, 4));
        due.is("a star with a long leg: longest way", 3, x.tree(1, 5));
        for (int nodes = 1; nodes <= 14; nodes++) {
            TreeKayles way = Due.forest(Due.path(nodes));
            due.is("mirrors of a way of " + nodes, nodes % 2 == 0 ? 1 : 0, way.tree(0, 4));
            due.is("longest way of " + nodes, nodes - 1, way.tree(0, 5));
        }
        due.is("mirrors of a star", 0, Due.forest(Due.star(5)).tree(0, 4));
        due.is("longest way of a star", 2, Due.forest(Due.star(5)).tree(0, 5));
        due.is("longest way with node 0 in its middle", 4, Due.forest(".aabc").tree(0, 5));
        due.is("longest way besides node 0", 4, Due.forest(".abbcd").tree(0, 5));
    }

    private static void promise17TreeFails() {
        TreeKayles x = Due.forest(".a.");
        due.failsIndex("tree(-1, 0)", x, () -> x.tree(-1, 0));
        due.failsIndex("tree(2, 0)", x, () -> x.tree(2, 0));
        due.failsIndex("tree(2, 6)", x, () -> x.tree(2, 6));
        due.failsIndex("tree(-1, -1)", x, () -> x.tree(-1, -1));
        due.failsIndex("tree(greatest, 0)", x, () -> x.tree(Integer.MAX_VALUE, 0));
        due.failsArgument("tree(0, -1)", x, () -> x.tree(0, -1));
        due.failsArgument("tree(1, 6)", x, () -> x.tree(1, 6));
        TreeKayles none = new TreeKayles();
        due.failsIndex("tree(0, 0) without nodes", none, () -> none.tree(0, 0));
    }

    private static void promise18Count() {
        TreeKayles x = Due.forest(".ab.d..g");
        int[] want = {8, 8, 4, 4, 3, 3, 3, 1, 0, 0, 2, 1};
        for (int what = 0; what < 12; what++) {
            due.is(".ab.d..g: count(" + what + ")", want[what], x.count(what));
        }
        x.take(1);
        int[] later = {8, 5, 2, 3, 2, 1, 1, 0, 1, 1, 5, 2};
        for (int what = 0; what < 12; what++) {
            due.is(".ab.d..g after take(1): count(" + what + ")", later[what], x.count(what));
        }
    }

    private static void promise18CountOfWays() {
        for (int nodes = 0; nodes <= 14; nodes++) {
            TreeKayles way = Due.forest(Due.path(nodes));
            due.is("a way of " + nodes + ": count(5)", WAY_VALUES[nodes], way.count(5));
            due.is("a way of " + nodes + ": count(6)", WAY_VALUES[nodes], way.count(6));
        }
        TreeKayles two = Due.forest(".abcd" + ".fghijklm");
        due.is("ways of 5 and 9: 3 and 3", 0, two.count(5));
        due.is("added without carry", 0, two.count(6));
        TreeKayles other = Due.forest(".abcd" + ".fghi" + ".kl.");
        due.is("ways of 5, 5, 3, 1", 3, other.count(5));
        due.is("ways of 5, 5, 3, 1, added", 3, other.count(6));
    }

    private static void promise18CountMisere() {
        for (int nodes = 0; nodes <= 14; nodes++) {
            TreeKayles lone = Due.forest("..............".substring(0, nodes));
            due.is("misere, lone nodes: " + nodes, nodes % 2 == 0 ? 1 : 0, lone.count(7));
        }
        due.is("misere, two nodes in a way", 0, Due.forest(".a").count(7));
        due.is("misere, three nodes in a way", 1, Due.forest(".ab").count(7));
        due.is("misere, four nodes in a way", 1, Due.forest(".abc").count(7));
        due.is("misere, a way of two and a lone node", 1, Due.forest(".a.").count(7));
    }

    private static void promise18CountFails() {
        TreeKayles x = Due.forest(".");
        due.failsArgument("count(-1)", x, () -> x.count(-1));
        due.failsArgument("count(12)", x, () -> x.count(12));
        due.failsArgument("count(least)", x, () -> x.count(Integer.MIN_VALUE));
    }

    private static void promise19Best() {
        due.is("no nodes", -1, new TreeKayles().best());
        due.is("one node", 0, Due.forest(".").best());
        due.is("a way of three", 1, Due.forest(".ab").best());
        due.is("a way of four", -1, Due.forest(".abc").best());
        due.is("a way of five", 2, Due.forest(".abcd").best());
        due.is("two lone nodes", -1, Due.forest("..").best());
        due.is("a way of three and one node", 0, Due.forest(".ab.").best());
        TreeKayles x = Due.forest("...");
        x.take(0);
        x.take(1);
        due.is("the lowest that is there", 2, x.best());
        due.is("nothing is changed", 1, x.count(1));
    }

    private static void promise20Length() {
        for (int nodes = 0; nodes <= 14; nodes++) {
            TreeKayles way = Due.forest(Due.path(nodes));
            due.is("the shortest game of a way of " + nodes, (nodes + 2) / 3, way.length(true));
            due.is("the longest game of a way of " + nodes, (nodes + 1) / 2, way.length(false));
        }
        TreeKayles star = Due.forest(Due.star(13));
        due.is("the shortest game of a star", 1, star.length(true));
        due.is("the longest game of a star", 13, star.length(false));
        TreeKayles lone = Due.forest("..............");
        due.is("the shortest game of lone nodes", 14, lone.length(true));
        due.is("the longest game of lone nodes", 14, lone.length(false));
        star.take(5);
        due.is("moves that are left: shortest", 12, star.length(true));
        due.is("moves that are left: longest", 12, star.length(false));
        due.is("two stars: shortest", 2, Due.forest(".aaa.eee").length(true));
        due.is("two stars: longest", 6, Due.forest(".aaa.eee").length(false));
    }

    private static void promise21Mirror() {
        TreeKayles x = Due.forest("...ba.fgh");
        due.is("mirror(0)", 4, x.mirror(0));
        due.is("mirror(1)", 103, x.mirror(1));
        due.is("mirror(2)", 607, x.mirror(2));
        due.is("mirror(3)", -1, x.mirror(3));
        due.is("mirror(greatest)", -1, x.mirror(Integer.MAX_VALUE));
        due.failsArgument("mirror(-1)", x, () -> x.mirror(-1));
        x.take(0);
        due.is("mirror(0) then", 103, x.mirror(0));
        x.take(8);
        due.is("mirror(1): other parts are left", 506, x.mirror(1));
        TreeKayles late = Due.forest("............");
        late.join(11, 2);
        late.join(10, 3);
        due.is("by lesser nodes first", 211, late.mirror(0));
        due.is("then the next", 310, late.mirror(1));
        due.is("no nodes", -1, new TreeKayles().mirror(0));
    }

    private static void promise22IfJoined() {
        TreeKayles x = Due.forest(".a.c.");
        long before = x.digest();
        due.is("a way of four and a node", 1, x.ifJoined(0, 2));
        due.is("the same the other way round", 1, x.ifJoined(2, 0));
        due.is("a way of three, at an end, and of two", 2 ^ 1, x.ifJoined(1, 4));
        due.is("nothing is changed", before, x.digest());
        due.is("the edges stay", 2, x.count(2));
        x.join(0, 2);
        due.is("a way of five", 3, x.ifJoined(1, 4));
        due.is("a star with a long leg", 3, x.ifJoined(0, 4));
        TreeKayles y = Due.forest(".ab....");
        y.take(0);
        due.is("what is left of the forest: a way of two, three nodes", 0, y.ifJoined(2, 3));
        due.is("the value after join()", 0, joined(y, 2, 3));
    }

    private static int joined(TreeKayles x, int one, int other) {
        x.join(one, other);
        return x.count(5);
    }

    private static void promise22IfJoinedFails() {
        TreeKayles x = Due.forest(".ab.");
        due.failsIndex("ifJoined(-1, 0)", x, () -> x.ifJoined(-1, 0));
        due.failsIndex("ifJoined(0, 4)", x, () -> x.ifJoined(0, 4));
        due.is("ifJoined(1, 1)", -1, x.ifJoined(1, 1));
        due.is("ifJoined(0, 2), of one tree", -1, x.ifJoined(0, 2));
        TreeKayles y = Due.forest(Due.path(5));
        y.take(2);
        due.is("one tree if no node was taken", -1, y.ifJoined(0, 4));
        due.is("one was taken", -1, y.ifJoined(0, 2));
        due.is("the other one was taken", -1, y.ifJoined(3, 4));
        due.failsIndex("ifJoined(2, 5), the node first", y, () -> y.ifJoined(2, 5));
    }

    private static void promise23Value() {
        TreeKayles x = Due.forest(Due.path(14));
        for (int nodes = 0; nodes <= 14; nodes++) {
            int mask = (1 << nodes) - 1;
            due.is("value of the first " + nodes, WAY_VALUES[nodes], x.value(mask));
            due.is("value of the last " + nodes, WAY_VALUES[nodes], x.value(mask << 14 - nodes));
        }
        due.is("two ways of three and one of five", 3, x.value(0b01111101110111));
        due.is("seven nodes without edges", 1, x.value(0b10101010101010));
        due.is("six nodes without edges", 0, x.value(0b00101010101010));
        due.failsArgument("value(1 << 14)", x, () -> x.value(1 << 14));
        due.failsArgument("value(-1)", x, () -> x.value(-1));
        due.failsArgument("value(least)", x, () -> x.value(Integer.MIN_VALUE));
        x.take(3);
        due.failsArgument("value(4): 2 was taken", x, () -> x.value(4));
        due.is("value(3)", 1, x.value(3));
        due.is("the value of all that is there", x.count(5), x.value(0b11111111100011));
        due.is("value(0) without nodes", 0, new TreeKayles().value(0));
    }

    private static void promise24OpeningShare() {
        due.isShare("no nodes", 0.0, new TreeKayles().openingShare());
        due.isShare("one node", 1.0, Due.forest(".").openingShare());
        due.isShare("a way of three", 1.0 / 3, Due.forest(".ab").openingShare());
        due.isShare("a way of four", 0.0, Due.forest(".abc").openingShare());
        due.isShare("three lone nodes", 1.0, Due.forest("...").openingShare());
        due.isShare("a star of four", 1.0 / 5, Due.forest(".aaaa").openingShare());
        TreeKayles x = Due.forest(".ab.");
        due.isShare("the ends of a way of three, and a node", 0.5, x.openingShare());
        x.take(3);
        due.isShare("by the nodes that are there", 1.0 / 3, x.openingShare());
        x.take(1);
        due.isShare("all were taken", 0.0, x.openingShare());
    }

    private static void promise25Digest() {
        TreeKayles none = new TreeKayles();
        long[] looks = {0, 0, 0, 0, 0, 0, 0, 1, 0, 0, 0, 0, -1, 0, 0, -1, -1, -1, -1, 0, 0, 0, 0};
        due.is("digest() of a new object", hash(looks), none.digest());
        TreeKayles x = Due.forest("...");
        x.join(0, 1);
        x.take(2);
        x.keep(1);
        Due.type(x, ".!");
        long[] values = {
            3, 2, 1, 1, 1, 1, 1, 0, 1, 1, 2, 3,
            1, 2, 0, 0, 1, 0,
            1, 1, 0, 0, 1, 0,
            0, 0, -1, -1, -1, -1,
            3, 2, 1, 0, 1, 1,
            0, 1, 1,
            1, -1, -1, -1,
            -1,
            Double.doubleToLongBits(1.0),
            0, 1,
            2, 46, 33,
        };
        due.is("digest()", hash(values), x.digest());
        due.is("digest() again: nothing is changed", hash(values), x.digest());
    }

    private static void promise25DigestOfOneNode() {
        long[] values = {
            1, 1, 0, 1, 1, 1, 1, 0, 0, 0, 1, 1,
            1, 0, 0, 0, 1, 0,
            1, 1, 1, 0, 0, 0,
            0, 1, 1,
            -1, -1, -1, -1,
            -1,
            Double.doubleToLongBits(1.0),
            0, 0,
            0,
        };
        due.is("digest() of one node", hash(values), Due.forest(".").digest());
    }

    private static void promise25DigestOfAStar() {
        long[] values = {
            5, 5, 4, 1, 1, 2, 2, 1, 0, 0, 1, 1,
            1, 30, 0, 0, 1, 0,
            1, 1, 0, 1, 0, 1,
            1, 1, 0, 1, 0, 1,
            1, 1, 0, 1, 0, 1,
            1, 1, 0, 1, 0, 1,
            31, 5, 2, 0, 0, 2,
            0, 1, 4,
            -1, -1, -1, -1,
            -1,
            Double.doubleToLongBits(0.2),
            0, 0,
            0,
        };
        due.is("digest() of a star: a share between 0 and 1", hash(values), Due.forest(".aaaa").digest());
    }

    private static long hash(long[] values) {
        long hash = 3221;
        for (long value : values) {
            hash = 31 * hash + value;
        }
        return hash;
    }

    private static void promise25DigestOfTheWholeState() {
        TreeKayles x = Due.forest(".abc.e");
        long before = x.digest();
        x.append(46);
        due.is("the buffer counts", 1, before != x.digest() ? 1 : 0);
        x.clearBuffer();
        due.is("as before", before, x.digest());
        x.join(0, 4);
        due.is("the edges count", 1, before != x.digest() ? 1 : 0);
        x.undo();
        due.is("as before", before, x.digest());
        x.again();
        due.is("saved states count", 1, before != x.digest() ? 1 : 0);
        x.undo();
        x.keep(0);
        due.is("slots count", 1, before != x.digest() ? 1 : 0);
    }
}
