/** Promises 1 to 4: a new object, node, join, cut. */
public final class ForestsTest {
    private static final Due due = new Due();

    public static void main(String[] args) {
        promise01ANewObject();
        promise02Node();
        promise02NodeFails();
        promise03Join();
        promise03JoinFails();
        promise04Cut();
        promise04CutInTheGame();
        promise04CutFails();
        due.end("ForestsTest");
    }

    private static void promise01ANewObject() {
        TreeKayles x = new TreeKayles();
        due.is("NONE", -1, TreeKayles.NONE);
        for (int what = 0; what < 12; what++) {
            due.is("new: count(" + what + ")", what == 7 ? 1 : 0, x.count(what));
        }
        due.is("new: best()", -1, x.best());
        due.is("new: clearBuffer()", 0, x.clearBuffer());
        due.is("new: firstError()", 0, x.firstError());
        due.failsState("new: goBack(0)", x, () -> x.goBack(0));
        due.failsState("new: goBack(1)", x, () -> x.goBack(1));
        due.failsState("new: undo()", x, x::undo);
        TreeKayles other = new TreeKayles();
        x.node(-1);
        due.is("objects have nothing in common: count(0)", 0, other.count(0));
    }

    private static void promise02Node() {
        TreeKayles x = new TreeKayles();
        due.is("node(NONE)", 0, x.node(TreeKayles.NONE));
        due.is("node(0)", 1, x.node(0));
        due.is("node(0)", 2, x.node(0));
        due.is("node(NONE)", 3, x.node(-1));
        due.is("node(2)", 4, x.node(2));
        due.is("saved by each node()", 5, x.count(11));
        due.is("edges", 3, x.count(2));
        due.is("trees", 2, x.count(3));
        due.is("neighbours of 0", 0b00110, x.nodeOf(0, 1));
        due.is("neighbours of 2", 0b10001, x.nodeOf(2, 1));
        due.is("neighbours of 3", 0, x.nodeOf(3, 1));
        due.is("undo()", 4, x.undo());
        due.is("nodes after undo()", 4, x.count(0));
        due.is("neighbours of 2 after undo()", 0b0001, x.nodeOf(2, 1));
        due.is("node(NONE) after undo() has no edges of old", 4, x.node(-1));
        due.is("neighbours of the new 4", 0, x.nodeOf(4, 1));
        x.take(1);
        due.is("node(2) in the game", 5, x.node(2));
        due.is("it is there", 1, x.nodeOf(5, 0));
        due.is("the moves stay", 1, x.count(9));
        due.is("the player stays", 1, x.count(8));
    }

    private static void promise02NodeFails() {
        TreeKayles x = new TreeKayles();
        due.failsIndex("node(0) without nodes", x, () -> x.node(0));
        due.failsIndex("node(-2)", x, () -> x.node(-2));
        due.failsIndex("node(least)", x, () -> x.node(Integer.MIN_VALUE));
        due.failsIndex("node(greatest)", x, () -> x.node(Integer.MAX_VALUE));
        x.node(-1);
        x.take(0);
        due.failsState("node(0), which was taken", x, () -> x.node(0));
        due.failsIndex("node(1) with one node", x, () -> x.node(1));
        TreeKayles full = new TreeKayles();
        for (int node = 0; node < 14; node++) {
            due.is("node() number " + node, node, full.node(node - 1));
        }
        due.failsState("node(NONE) with 14 nodes", full, () -> full.node(-1));
        due.failsState("node(13) with 14 nodes", full, () -> full.node(13));
        due.failsIndex("node(14) with 14 nodes", full, () -> full.node(14));
        due.failsIndex("node(-2) with 14 nodes", full, () -> full.node(-2));
        full.take(13);
        due.failsState("taken ones count, too", full, () -> full.node(-1));
    }

    private static void promise03Join() {
        TreeKayles x = Due.forest(".....");
        due.is("join(3, 1)", 4, x.join(3, 1));
        due.is("edges", 1, x.count(2));
        due.is("neighbours of 1", 0b01000, x.nodeOf(1, 1));
        due.is("neighbours of 3", 0b00010, x.nodeOf(3, 1));
        due.is("join(1, 4)", 3, x.join(1, 4));
        due.is("join(0, 2)", 2, x.join(0, 2));
        due.is("join(2, 3)", 1, x.join(2, 3));
        due.is("saved by each join()", 5, x.count(11));
        due.is("undo()", 4, x.undo());
        due.is("trees after undo()", 2, x.count(3));
        TreeKayles y = Due.forest(".a...");
        y.take(0);
        due.is("join(2, 4) in the game", 2, y.join(2, 4));
        y.again();
        due.is("it stays with again()", 3, y.count(3));
    }

    private static void promise03JoinFails() {
        TreeKayles x = Due.forest(".ab.c");
        due.failsIndex("join(-1, 0)", x, () -> x.join(-1, 0));
        due.failsIndex("join(0, 5)", x, () -> x.join(0, 5));
        due.failsIndex("join(5, 5)", x, () -> x.join(5, 5));
        due.failsState("join(0, 0)", x, () -> x.join(0, 0));
        due.failsState("join(0, 1), which have an edge", x, () -> x.join(0, 1));
        due.failsState("join(4, 0), of one tree", x, () -> x.join(4, 0));
        x.take(1);
        due.is("what is left", 0b11000, x.tree(0, 0) | x.tree(1, 0));
        due.failsState("join(3, 1), which was taken", x, () -> x.join(3, 1));
        due.failsState("join(1, 3), which was taken", x, () -> x.join(1, 3));
        due.failsIndex("join(1, 5): the node first", x, () -> x.join(1, 5));
        TreeKayles way = Due.forest(Due.path(5));
        way.take(2);
        due.is("trees of the ends", 2, way.count(3));
        due.failsState("join(0, 4): one tree if no node was taken", way, () -> way.join(0, 4));
    }

    private static void promise04Cut() {
        TreeKayles x = Due.forest(Due.path(6));
        due.is("cut(2, 3) in the middle of six", 1, x.cut(2, 3));
        due.is("trees", 2, x.count(3));
        due.is("edges", 4, x.count(2));
        due.is("cut(1, 0) of three", 0, x.cut(1, 0));
        due.is("cut(2, 1) of two", 1, x.cut(2, 1));
        due.is("saved by each cut()", 4, x.count(11));
        due.is("neighbours of 1", 0, x.nodeOf(1, 1));
        due.is("undo()", 3, x.undo());
        due.is("the edge is back", 0b100, x.nodeOf(1, 1));
        due.is("cut(1, 0) of two nodes", 1, Due.forest(".a").cut(1, 0));
        due.is("ways of three, joined at a middle and at an end", 1, Due.forest(".aaade").cut(0, 3));
        due.is("a way and a star of four nodes", 0, Due.forest(".abcaeee").cut(0, 4));
        due.is("six nodes each, with as many neighbours, not alike", 0, Due.forest(".aaadeaggigk").cut(0, 6));
    }

    private static void promise04CutInTheGame() {
        TreeKayles x = Due.forest(Due.path(8));
        x.take(0);
        due.is("six are left: cut(3, 4) is no mirror any more", 0, x.cut(3, 4));
        due.is("the moves stay", 1, x.count(9));
        TreeKayles y = Due.forest(Due.path(6));
        y.take(0);
        due.is("four are left: cut(3, 4) is a mirror now", 1, y.cut(3, 4));
        y.again();
        due.is("the cut stays with again()", 2, y.count(3));
    }

    private static void promise04CutFails() {
        TreeKayles x = Due.forest(".ab.");
        due.failsIndex("cut(-1, 0)", x, () -> x.cut(-1, 0));
        due.failsIndex("cut(0, 4)", x, () -> x.cut(0, 4));
        due.failsState("cut(0, 0)", x, () -> x.cut(0, 0));
        due.failsState("cut(0, 2), which have no edge", x, () -> x.cut(0, 2));
        x.take(0);
        due.failsState("cut(0, 1), both taken", x, () -> x.cut(0, 1));
        due.failsState("cut(2, 1), one taken", x, () -> x.cut(2, 1));
        due.failsState("cut(1, 2), one taken", x, () -> x.cut(1, 2));
        due.failsIndex("cut(0, 9): the node first", x, () -> x.cut(0, 9));
    }
}
