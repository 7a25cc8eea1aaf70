/** Promises 5 to 7: take, reply, again. */
public final class GameTest {
    private static final Due due = new Due();

    public static void main(String[] args) {
        promise05Take();
        promise05TakeFails();
        promise06Reply();
        promise06ReplyWithoutAWinningMove();
        promise06ReplyFails();
        promise07Again();
        due.end("GameTest");
    }

    private static void promise05Take() {
        TreeKayles x = Due.forest(".aaad.");
        due.is("take(3)", 3, x.take(3));
        due.is("nodes, taken ones, too", 6, x.count(0));
        due.is("nodes that are there", 3, x.count(1));
        due.is("0 was taken", 0, x.nodeOf(0, 0));
        due.is("1 is there", 1, x.nodeOf(1, 0));
        due.is("taken ones have no edges", 0, x.count(2));
        due.is("the player", 1, x.count(8));
        due.is("the moves", 1, x.count(9));
        due.is("saved", 2, x.count(11));
        due.is("take(5), a tree of its own", 1, x.take(5));
        due.is("the player", 0, x.count(8));
        due.is("the moves", 2, x.count(9));
        due.is("take(2): its neighbour was taken before", 1, x.take(2));
        due.is("take(1)", 1, x.take(1));
        due.is("nothing is left", 0, x.count(1));
        due.is("the moves", 4, x.count(9));
        due.is("undo()", 4, x.undo());
        due.is("the moves after undo()", 3, x.count(9));
        due.is("the player after undo()", 1, x.count(8));
        due.is("1 is there again", 1, x.nodeOf(1, 0));
    }

    private static void promise05TakeFails() {
        TreeKayles x = Due.forest(".a.");
        due.failsIndex("take(-1)", x, () -> x.take(-1));
        due.failsIndex("take(3)", x, () -> x.take(3));
        due.failsIndex("take(least)", x, () -> x.take(Integer.MIN_VALUE));
        x.take(0);
        due.failsState("take(0) again", x, () -> x.take(0));
        due.failsState("take(1), taken as a neighbour", x, () -> x.take(1));
        due.is("take(2)", 1, x.take(2));
    }

    private static void promise06Reply() {
        TreeKayles x = Due.forest(Due.path(3));
        due.is("three in a way: the middle", 1, x.best());
        due.is("reply()", 1, x.reply());
        due.is("nothing is left", 0, x.count(1));
        due.is("the player", 1, x.count(8));
        due.is("the moves", 1, x.count(9));
        due.is("saved", 2, x.count(11));
        due.is("undo()", 1, x.undo());
        due.is("all are there", 3, x.count(1));
        TreeKayles y = Due.forest(".aa..");
        due.is("a way of three and two nodes: reply()", 0, y.reply());
        due.is("the two nodes are left", 2, y.count(1));
    }

    private static void promise06ReplyWithoutAWinningMove() {
        TreeKayles x = Due.forest(Due.path(4));
        due.is("four in a way: best()", -1, x.best());
        due.is("reply()", 0, x.reply());
        due.is("reply() wins then", 2, x.reply());
        due.is("nothing is left", 0, x.count(1));
        TreeKayles y = Due.forest("...");
        y.take(0);
        due.is("two nodes: best()", -1, y.best());
        due.is("reply(): the lowest one that is there", 1, y.reply());
        due.is("reply()", 2, y.reply());
    }

    private static void promise06ReplyFails() {
        TreeKayles x = new TreeKayles();
        due.failsState("reply() without nodes", x, x::reply);
        x.node(-1);
        x.reply();
        due.failsState("reply() when all were taken", x, x::reply);
    }

    private static void promise07Again() {
        TreeKayles x = Due.forest(".abc.");
        x.take(1);
        x.take(4);
        due.is("again()", 4, x.again());
        due.is("all are there", 5, x.count(1));
        due.is("all edges", 3, x.count(2));
        due.is("the player", 0, x.count(8));
        due.is("the moves", 0, x.count(9));
        due.is("saved", 4, x.count(11));
        due.is("again(), which changes nothing", 0, x.again());
        due.is("it is saved, too", 5, x.count(11));
        x.undo();
        due.is("undo()", 3, x.undo());
        due.is("one is left", 1, x.count(1));
        due.is("the moves are back", 2, x.count(9));
        TreeKayles y = Due.forest("...");
        y.take(1);
        due.is("one move: the player", 1, y.count(8));
        due.is("again()", 1, y.again());
        due.is("player 0 is on the move", 0, y.count(8));
        TreeKayles none = new TreeKayles();
        due.is("again() without nodes", 0, none.again());
        due.is("saved", 1, none.count(11));
    }
}
