/** Boundary cases of promises 16 to 25: one test for each. */
public final class BoundsOfLooksTest {
    private static final Due due = new Due();

    public static void main(String[] args) throws IllegalAccessException {
        due.runEach(BoundsOfLooksTest.class);
        due.end("BoundsOfLooksTest");
    }

    /** The properties 0 to 5 of a node must be these. */
    private static void nodeIs(TreeKayles x, int node, int... want) {
        for (int what = 0; what < 6; what++) {
            due.is("nodeOf(" + node + ", " + what + ")", want[what], x.nodeOf(node, what));
        }
    }

    /** The properties 0 to 5 of a tree must be these. */
    private static void treeIs(TreeKayles x, int tree, int... want) {
        for (int what = 0; what < 6; what++) {
            due.is("tree(" + tree + ", " + what + ")", want[what], x.tree(tree, what));
        }
    }

    /** The numbers 0 to 11 must be these. */
    private static void countsAre(TreeKayles x, int... want) {
        for (int what = 0; what < 12; what++) {
            due.is("count(" + what + ")", want[what], x.count(what));
        }
    }

    /** A star of 14 nodes that all were taken by one move. */
    private static TreeKayles allTaken() {
        TreeKayles x = Due.forest(Due.star(13));
        x.take(0);
        return x;
    }

    /** Seven trees of two nodes. */
    private static TreeKayles pairs() {
        return Due.forest(".a.c.e.g.i.k.m");
    }

    // ---- nodeOf

    private static void promise16OnePropertyBelow() {
        TreeKayles x = Due.forest(".a");
        due.failsArgument("nodeOf(0, -1)", x, () -> x.nodeOf(0, -1));
        due.failsArgument("nodeOf(0, least)", x, () -> x.nodeOf(0, Integer.MIN_VALUE));
    }

    private static void promise16OnePropertyBeyond() {
        TreeKayles x = Due.forest(".a");
        due.failsArgument("nodeOf(0, 6)", x, () -> x.nodeOf(0, 6));
        due.failsArgument("nodeOf(0, greatest)", x, () -> x.nodeOf(0, Integer.MAX_VALUE));
    }

    private static void promise16OneNodeBelow() {
        TreeKayles x = Due.forest(".a");
        due.failsIndex("nodeOf(-1, 0)", x, () -> x.nodeOf(-1, 0));
        due.failsIndex("nodeOf(least, 0)", x, () -> x.nodeOf(Integer.MIN_VALUE, 0));
    }

    private static void promise16OneNodeBeyond() {
        TreeKayles x = Due.forest(".a");
        due.failsIndex("nodeOf(2, 0)", x, () -> x.nodeOf(2, 0));
        due.failsIndex("nodeOf(2, 5)", x, () -> x.nodeOf(2, 5));
        due.failsIndex("nodeOf(32, 0)", x, () -> x.nodeOf(32, 0));
        due.failsIndex("nodeOf(greatest, 0)", x, () -> x.nodeOf(Integer.MAX_VALUE, 0));
    }

    private static void promise16OneNodeBeyondFourteen() {
        TreeKayles x = Due.forest(Due.path(14));
        due.failsIndex("nodeOf(14, 0)", x, () -> x.nodeOf(14, 0));
    }

    private static void promise16WithoutNodes() {
        TreeKayles x = new TreeKayles();
        due.failsIndex("nodeOf(0, 0)", x, () -> x.nodeOf(0, 0));
    }

    private static void promise16ANodeThatWasChosen() {
        TreeKayles x = Due.forest(".a.");
        x.take(0);
        nodeIs(x, 0, 0, 0, -1, -1, -1, -1);
    }

    private static void promise16ANodeThatWasTakenAsANeighbour() {
        TreeKayles x = Due.forest(".a.");
        x.take(0);
        nodeIs(x, 1, 0, 0, -1, -1, -1, -1);
    }

    private static void promise16APropertyBeyondOfATakenNode() {
        TreeKayles x = Due.forest(".a.");
        x.take(0);
        due.failsArgument("nodeOf(0, 6)", x, () -> x.nodeOf(0, 6));
        due.failsArgument("nodeOf(0, -1)", x, () -> x.nodeOf(0, -1));
    }

    private static void promise16ANodeThatWasPutBack() {
        TreeKayles x = Due.forest(".a");
        x.take(0);
        x.again();
        nodeIs(x, 1, 1, 0b01, 0, 0, 1, 0);
    }

    /** To choose it wins the ordinary game, and loses the misere game. */
    private static void promise16TheOnlyNode() {
        nodeIs(Due.forest("."), 0, 1, 0, 0, 0, 1, 0);
    }

    private static void promise16TheLastNodeThatIsThere() {
        TreeKayles x = Due.forest(Due.star(13));
        for (int leaf = 1; leaf < 13; leaf++) {
            x.take(leaf);
        }
        nodeIs(x, 13, 1, 0, 0, 0, 1, 0);
    }

    private static void promise16TheMiddleOfAllNodes() {
        nodeIs(Due.forest(Due.star(13)), 0, 1, (1 << 14) - 2, 0, 0, 1, 0);
    }

    /** Twelve lone nodes are left: they are lost for the other player, but not in the misere game. */
    private static void promise16TheGreatestOfFourteenNodes() {
        nodeIs(Due.forest(Due.star(13)), 13, 1, 1, 0, 0, 1, 0);
    }

    private static void promise16TheGreatestTreeNumber() {
        nodeIs(Due.forest(Due.lone(14)), 13, 1, 0, 13, 1, 0, 1);
    }

    private static void promise16TheValueThatIsLeft() {
        TreeKayles x = Due.forest(".abcd.");
        due.is("nodeOf(5, 3): a way of five", 3, x.nodeOf(5, 3));
        due.is("nodeOf(5, 4)", 0, x.nodeOf(5, 4));
    }

    // ---- tree

    private static void promise17OnePropertyBelow() {
        TreeKayles x = Due.forest(".a.");
        due.failsArgument("tree(1, -1)", x, () -> x.tree(1, -1));
        due.failsArgument("tree(1, least)", x, () -> x.tree(1, Integer.MIN_VALUE));
    }

    private static void promise17OnePropertyBeyond() {
        TreeKayles x = Due.forest(".a.");
        due.failsArgument("tree(1, 6)", x, () -> x.tree(1, 6));
        due.failsArgument("tree(1, greatest)", x, () -> x.tree(1, Integer.MAX_VALUE));
    }

    private static void promise17OneTreeBelow() {
        TreeKayles x = Due.forest(".a.");
        due.failsIndex("tree(-1, 0)", x, () -> x.tree(-1, 0));
        due.failsIndex("tree(least, 0)", x, () -> x.tree(Integer.MIN_VALUE, 0));
    }

    private static void promise17OneTreeBeyond() {
        TreeKayles x = Due.forest(".a.");
        due.failsIndex("tree(2, 0)", x, () -> x.tree(2, 0));
        due.failsIndex("tree(2, 5)", x, () -> x.tree(2, 5));
        due.failsIndex("tree(greatest, 0)", x, () -> x.tree(Integer.MAX_VALUE, 0));
    }

    private static void promise17OneTreeBeyondFourteen() {
        TreeKayles x = Due.forest(Due.lone(14));
        due.is("tree(13, 1)", 1, x.tree(13, 1));
        due.failsIndex("tree(14, 0)", x, () -> x.tree(14, 0));
    }

    private static void promise17WithoutNodes() {
        TreeKayles x = new TreeKayles();
        due.failsIndex("tree(0, 0)", x, () -> x.tree(0, 0));
    }

    private static void promise17AllWereTaken() {
        TreeKayles x = allTaken();
        due.failsIndex("tree(0, 0)", x, () -> x.tree(0, 0));
    }

    private static void promise17ATreeThatWasTaken() {
        TreeKayles x = Due.forest(".a.");
        x.take(0);
        due.is("tree(0, 0)", 0b100, x.tree(0, 0));
        due.failsIndex("tree(1, 0)", x, () -> x.tree(1, 0));
    }

    private static void promise17ATreeOfOneNode() {
        treeIs(Due.forest("."), 0, 1, 1, 1, 0, 0, 0);
    }

    private static void promise17ATreeOfTwoNodes() {
        treeIs(Due.forest(".a"), 0, 3, 2, 1, 0, 1, 1);
    }

    private static void promise17AWayOfFourteenNodes() {
        treeIs(Due.forest(Due.path(14)), 0, (1 << 14) - 1, 14, 0, 0, 1, 13);
    }

    private static void promise17AStarOfFourteenNodes() {
        treeIs(Due.forest(Due.star(13)), 0, (1 << 14) - 1, 14, 1, 0, 0, 2);
    }

    private static void promise17TheLastOfFourteenTrees() {
        treeIs(Due.forest(Due.lone(14)), 13, 1 << 13, 1, 1, 0, 0, 0);
    }

    private static void promise17ItsOwnClass() {
        TreeKayles x = Due.forest(".a.");
        due.is("tree(0, 3)", 0, x.tree(0, 3));
        due.is("tree(1, 3)", 1, x.tree(1, 3));
    }

    private static void promise17TheLowestOfThreeOfOneClass() {
        TreeKayles x = Due.forest("..b.d.f");
        due.is("tree(1, 3)", 1, x.tree(1, 3));
        due.is("tree(2, 3)", 1, x.tree(2, 3));
        due.is("tree(3, 3)", 1, x.tree(3, 3));
    }

    private static void promise17TheClassOfWhatIsLeft() {
        TreeKayles x = Due.forest(".abcd.fg");
        due.is("ways of five and of three", 1, x.tree(1, 3));
        x.take(0);
        due.is("two ways of three", 0, x.tree(1, 3));
    }

    private static void promise17TheWayInWhatIsLeft() {
        TreeKayles x = Due.forest(Due.path(14));
        x.take(4);
        due.is("0, 1, 2", 2, x.tree(0, 5));
        due.is("6 to 13", 7, x.tree(1, 5));
    }

    private static void promise17TheMirrorsInWhatIsLeft() {
        TreeKayles x = Due.forest(Due.path(14));
        x.take(4);
        due.is("three nodes", 0, x.tree(0, 4));
        due.is("eight nodes", 1, x.tree(1, 4));
    }

    // ---- count

    private static void promise18OneBelow() {
        TreeKayles x = Due.forest(".a");
        due.failsArgument("count(-1)", x, () -> x.count(-1));
        due.failsArgument("count(least)", x, () -> x.count(Integer.MIN_VALUE));
    }

    private static void promise18OneBeyond() {
        TreeKayles x = Due.forest(".a");
        due.failsArgument("count(12)", x, () -> x.count(12));
        due.failsArgument("count(greatest)", x, () -> x.count(Integer.MAX_VALUE));
    }

    private static void promise18WithoutNodes() {
        countsAre(new TreeKayles(), 0, 0, 0, 0, 0, 0, 0, 1, 0, 0, 0, 0);
    }

    private static void promise18OneNode() {
        countsAre(Due.forest("."), 1, 1, 0, 1, 1, 1, 1, 0, 0, 0, 1, 1);
    }

    private static void promise18FourteenLoneNodes() {
        countsAre(Due.forest(Due.lone(14)), 14, 14, 0, 14, 1, 0, 0, 1, 0, 0, 0, 1);
    }

    private static void promise18OneTreeOfFourteen() {
        countsAre(Due.forest(Due.star(13)), 14, 14, 13, 1, 1, 1, 1, 0, 0, 0, 14, 1);
    }

    private static void promise18AllWereTaken() {
        countsAre(allTaken(), 14, 0, 0, 0, 0, 0, 0, 1, 1, 1, 0, 2);
    }

    private static void promise18MovesBehindLoadAndAgain() {
        TreeKayles x = Due.forest("...");
        x.take(0);
        x.take(1);
        due.is("count(9)", 2, x.count(9));
        x.again();
        due.is("count(9) behind again()", 0, x.count(9));
        x.take(0);
        x.load();
        due.is("count(9) behind load()", 0, x.count(9));
    }

    private static void promise18SevenSavedStates() {
        TreeKayles x = new TreeKayles();
        for (int saved = 1; saved <= 7; saved++) {
            x.node(TreeKayles.NONE);
            due.is("count(11)", saved < 6 ? saved : 6, x.count(11));
        }
    }

    // ---- best

    private static void promise19WithoutNodes() {
        due.is("best()", TreeKayles.NONE, new TreeKayles().best());
    }

    private static void promise19AllWereTaken() {
        due.is("best()", TreeKayles.NONE, allTaken().best());
    }

    private static void promise19NoneWins() {
        due.is("best()", TreeKayles.NONE, Due.forest(Due.path(14)).best());
    }

    private static void promise19AllWin() {
        due.is("best()", 0, Due.forest(Due.star(13)).best());
    }

    private static void promise19TheLowestWasTaken() {
        TreeKayles x = Due.forest("...");
        x.take(0);
        x.node(TreeKayles.NONE);
        due.is("best()", 1, x.best());
    }

    private static void promise19OnlyTheLeastWins() {
        TreeKayles x = Due.forest(Due.star(12));
        due.is("best()", 0, x.best());
        due.is("count(10)", 1, x.count(10));
    }

    private static void promise19OnlyTheGreatestWins() {
        TreeKayles x = Due.forest(Due.lone(14));
        for (int node = 0; node < 13; node++) {
            x.take(node);
        }
        due.is("best()", 13, x.best());
    }

    // ---- length

    private static void promise20WithoutNodes() {
        TreeKayles x = new TreeKayles();
        due.is("length(true)", 0, x.length(true));
        due.is("length(false)", 0, x.length(false));
    }

    private static void promise20AllWereTaken() {
        TreeKayles x = allTaken();
        due.is("length(true)", 0, x.length(true));
        due.is("length(false)", 0, x.length(false));
    }

    private static void promise20OneNode() {
        TreeKayles x = Due.forest(".");
        due.is("length(true)", 1, x.length(true));
        due.is("length(false)", 1, x.length(false));
    }

    private static void promise20FourteenLoneNodes() {
        TreeKayles x = Due.forest(Due.lone(14));
        due.is("length(true)", 14, x.length(true));
        due.is("length(false)", 14, x.length(false));
    }

    /** The shortest game takes three nodes by each move, the longest one two. */
    private static void promise20OneTreeOfFourteen() {
        TreeKayles x = Due.forest(Due.path(14));
        due.is("length(true)", 5, x.length(true));
        due.is("length(false)", 7, x.length(false));
    }

    private static void promise20OneMoveOrThirteen() {
        TreeKayles x = Due.forest(Due.star(13));
        due.is("length(true)", 1, x.length(true));
        due.is("length(false)", 13, x.length(false));
    }

    private static void promise20OnlyMovesThatAreLeft() {
        TreeKayles x = Due.forest(Due.star(13));
        x.take(1);
        due.is("length(true)", 12, x.length(true));
        due.is("length(false)", 12, x.length(false));
    }

    // ---- mirror

    private static void promise21RanksBelowZero() {
        TreeKayles x = pairs();
        due.failsArgument("mirror(-1)", x, () -> x.mirror(-1));
        due.failsArgument("mirror(least)", x, () -> x.mirror(Integer.MIN_VALUE));
    }

    private static void promise21ARankBelowZeroWithoutMirrors() {
        TreeKayles x = new TreeKayles();
        due.failsArgument("mirror(-1)", x, () -> x.mirror(-1));
    }

    private static void promise21SevenMirrors() {
        TreeKayles x = pairs();
        for (int rank = 0; rank < 7; rank++) {
            due.is("mirror(" + rank + ")", 200 * rank + 2 * rank + 1, x.mirror(rank));
        }
    }

    private static void promise21OneRankBehindTheLastMirror() {
        due.is("mirror(7)", TreeKayles.NONE, pairs().mirror(7));
        due.is("mirror(1) of one mirror", TreeKayles.NONE, Due.forest(".a").mirror(1));
    }

    private static void promise21TheGreatestRank() {
        due.is("mirror(greatest)", TreeKayles.NONE, pairs().mirror(Integer.MAX_VALUE));
    }

    private static void promise21WithoutNodes() {
        due.is("mirror(0)", TreeKayles.NONE, new TreeKayles().mirror(0));
    }

    private static void promise21WithoutMirrors() {
        due.is("mirror(0)", TreeKayles.NONE, Due.forest(Due.star(13)).mirror(0));
        due.is("mirror(0) of lone nodes", TreeKayles.NONE, Due.forest("...").mirror(0));
    }

    private static void promise21AllWereTaken() {
        TreeKayles x = Due.forest(".a");
        x.take(0);
        due.is("mirror(0)", TreeKayles.NONE, x.mirror(0));
    }

    private static void promise21TheLeastAndTheGreatestNode() {
        TreeKayles x = Due.forest(Due.lone(14));
        x.join(13, 0);
        due.is("mirror(0)", 13, x.mirror(0));
    }

    private static void promise21ByTheLesserNodes() {
        TreeKayles x = Due.forest("....");
        x.join(1, 2);
        x.join(0, 3);
        due.is("mirror(0)", 3, x.mirror(0));
        due.is("mirror(1)", 102, x.mirror(1));
    }

    private static void promise21OnlyOfWhatIsLeft() {
        TreeKayles x = Due.forest(".abc.e");
        x.take(0);
        due.is("mirror(0)", 203, x.mirror(0));
        due.is("mirror(1)", 405, x.mirror(1));
        due.is("mirror(2)", TreeKayles.NONE, x.mirror(2));
    }

    // ---- ifJoined

    private static void promise22OneBelowTheLeast() {
        TreeKayles x = Due.forest("...");
        due.failsIndex("ifJoined(-1, 0)", x, () -> x.ifJoined(-1, 0));
        due.failsIndex("ifJoined(0, -1)", x, () -> x.ifJoined(0, -1));
        due.failsIndex("ifJoined(0, least)", x, () -> x.ifJoined(0, Integer.MIN_VALUE));
    }

    private static void promise22OneBeyondTheGreatest() {
        TreeKayles x = Due.forest("...");
        due.failsIndex("ifJoined(3, 0)", x, () -> x.ifJoined(3, 0));
        due.failsIndex("ifJoined(0, 3)", x, () -> x.ifJoined(0, 3));
        due.failsIndex("ifJoined(0, 33)", x, () -> x.ifJoined(0, 33));
        due.failsIndex("ifJoined(greatest, 0)", x, () -> x.ifJoined(Integer.MAX_VALUE, 0));
    }

    private static void promise22BeyondFourteenNodes() {
        TreeKayles x = Due.forest(Due.lone(14));
        due.failsIndex("ifJoined(0, 14)", x, () -> x.ifJoined(0, 14));
        due.failsIndex("ifJoined(14, 0)", x, () -> x.ifJoined(14, 0));
    }

    private static void promise22WithoutNodes() {
        TreeKayles x = new TreeKayles();
        due.failsIndex("ifJoined(0, 0)", x, () -> x.ifJoined(0, 0));
    }

    private static void promise22BothNodesTheSame() {
        due.is("ifJoined(1, 1)", TreeKayles.NONE, Due.forest("...").ifJoined(1, 1));
    }

    private static void promise22TheFirstWasTaken() {
        TreeKayles x = Due.forest("...");
        x.take(1);
        due.is("ifJoined(1, 2)", TreeKayles.NONE, x.ifJoined(1, 2));
    }

    private static void promise22TheSecondWasTaken() {
        TreeKayles x = Due.forest("...");
        x.take(1);
        due.is("ifJoined(2, 1)", TreeKayles.NONE, x.ifJoined(2, 1));
    }

    private static void promise22ANodeBeyondAndATakenOne() {
        TreeKayles x = Due.forest("...");
        x.take(1);
        due.failsIndex("ifJoined(1, 3)", x, () -> x.ifJoined(1, 3));
        due.failsIndex("ifJoined(-1, 1)", x, () -> x.ifJoined(-1, 1));
    }

    private static void promise22ThereIsAnEdge() {
        TreeKayles x = Due.forest(".a.");
        due.is("ifJoined(0, 1)", TreeKayles.NONE, x.ifJoined(0, 1));
        due.is("ifJoined(1, 0)", TreeKayles.NONE, x.ifJoined(1, 0));
    }

    private static void promise22ACycle() {
        due.is("ifJoined(0, 13)", TreeKayles.NONE, Due.forest(Due.path(14)).ifJoined(0, 13));
    }

    private static void promise22ACycleByWayOfTakenNodes() {
        TreeKayles x = Due.forest(".aaa");
        x.take(1);
        due.is("ifJoined(2, 3)", TreeKayles.NONE, x.ifJoined(2, 3));
    }

    private static void promise22TwoLoneNodes() {
        due.is("ifJoined(0, 1)", 1, Due.forest("..").ifJoined(0, 1));
    }

    private static void promise22TheLeastAndTheGreatest() {
        TreeKayles x = Due.forest(Due.lone(14));
        due.is("ifJoined(0, 13): twelve lone nodes and two joined", 1, x.ifJoined(0, 13));
        due.is("ifJoined(13, 0)", 1, x.ifJoined(13, 0));
    }

    private static void promise22OneTreeOfFourteen() {
        due.is("ifJoined(6, 7)", 0, Due.forest(".abcdef.hijklm").ifJoined(6, 7));
    }

    private static void promise22OfWhatIsLeft() {
        TreeKayles x = Due.forest(".abcde");
        x.take(0);
        x.node(TreeKayles.NONE);
        due.is("ifJoined(6, 5): a way of five", 3, x.ifJoined(6, 5));
    }

    /** One look must not be answered by what another one has worked out. */
    private static void promise22AnotherEdgeThen() {
        TreeKayles x = Due.forest(".a.c.");
        due.is("ifJoined(1, 2): a way of four and one", 1, x.ifJoined(1, 2));
        due.is("ifJoined(1, 4): ways of three and two", 3, x.ifJoined(1, 4));
        due.is("ifJoined(1, 2)", 1, x.ifJoined(1, 2));
        due.is("count(5)", 1, x.count(5));
    }

    private static void promise22NothingIsChanged() {
        TreeKayles x = Due.forest("..");
        long before = x.digest();
        x.ifJoined(0, 1);
        due.is("digest()", before, x.digest());
        due.is("count(2)", 0, x.count(2));
    }

    // ---- value

    private static void promise23TheEmptyMask() {
        due.is("value(0)", 0, Due.forest(".a").value(0));
    }

    private static void promise23TheEmptyMaskWithoutNodes() {
        due.is("value(0)", 0, new TreeKayles().value(0));
        due.is("value(0) when all were taken", 0, allTaken().value(0));
    }

    private static void promise23AllNodes() {
        due.is("value(16383)", 5, Due.forest(Due.path(13) + ".").value((1 << 14) - 1));
    }

    private static void promise23AllButTheGreatest() {
        due.is("value(8191)", 4, Due.forest(Due.path(13) + ".").value((1 << 13) - 1));
    }

    private static void promise23TheGreatestNode() {
        due.is("value(8192)", 1, Due.forest(Due.path(14)).value(1 << 13));
    }

    private static void promise23OneNodeBeyond() {
        TreeKayles x = Due.forest("..");
        due.failsArgument("value(4)", x, () -> x.value(4));
        due.failsArgument("value(7)", x, () -> x.value(7));
    }

    private static void promise23OneNodeBeyondFourteen() {
        TreeKayles x = Due.forest(Due.lone(14));
        due.failsArgument("value(16384)", x, () -> x.value(1 << 14));
        due.failsArgument("value(32767)", x, () -> x.value((1 << 15) - 1));
        due.failsArgument("value(greatest)", x, () -> x.value(Integer.MAX_VALUE));
    }

    private static void promise23ANegativeMask() {
        TreeKayles x = Due.forest(Due.lone(14));
        due.failsArgument("value(-1)", x, () -> x.value(-1));
        due.failsArgument("value(least)", x, () -> x.value(Integer.MIN_VALUE));
        due.failsArgument("value(least + 1)", x, () -> x.value(Integer.MIN_VALUE + 1));
    }

    private static void promise23ATakenNode() {
        TreeKayles x = Due.forest(".a.");
        x.take(0);
        due.failsArgument("value(1)", x, () -> x.value(1));
        due.failsArgument("value(2)", x, () -> x.value(2));
        due.failsArgument("value(6)", x, () -> x.value(6));
        due.is("value(4)", 1, x.value(4));
    }

    private static void promise23ANodeWithoutNodes() {
        TreeKayles x = new TreeKayles();
        due.failsArgument("value(1)", x, () -> x.value(1));
        due.failsArgument("value(-1)", x, () -> x.value(-1));
    }

    private static void promise23OnlyEdgesOfTheSet() {
        TreeKayles x = Due.forest(".ab");
        due.is("value(5): the ends", 0, x.value(0b101));
        due.is("value(3)", 1, x.value(0b011));
        due.is("value(7)", 2, x.value(0b111));
    }

    // ---- openingShare

    private static void promise24WithoutNodes() {
        due.isShare("openingShare()", 0.0, new TreeKayles().openingShare());
    }

    private static void promise24AllWereTaken() {
        due.isShare("openingShare()", 0.0, allTaken().openingShare());
    }

    private static void promise24NoneWins() {
        due.isShare("openingShare()", 0.0, Due.forest(Due.path(14)).openingShare());
    }

    private static void promise24AllWin() {
        due.isShare("openingShare()", 1.0, Due.forest(Due.star(13)).openingShare());
    }

    private static void promise24OneWins() {
        due.isShare("openingShare()", 1.0 / 13, Due.forest(Due.star(12)).openingShare());
    }

    private static void promise24TakenNodesDoNotCount() {
        TreeKayles x = Due.forest(".ab.");
        x.take(3);
        due.isShare("openingShare()", 1.0 / 3, x.openingShare());
    }

    // ---- digest

    private static void promise25WithoutNodes() {
        TreeKayles x = new TreeKayles();
        due.is("digest()", Looks.digest(x, 0, 0, ""), x.digest());
    }

    private static void promise25OneNode() {
        TreeKayles x = Due.forest(".");
        due.is("digest()", Looks.digest(x, 0, 0, ""), x.digest());
    }

    private static void promise25AllWereTaken() {
        TreeKayles x = allTaken();
        due.is("digest()", Looks.digest(x, 0, 0, ""), x.digest());
    }

    private static void promise25TheGreatestNodeWasTaken() {
        TreeKayles x = Due.forest("...");
        x.take(2);
        due.is("digest()", Looks.digest(x, 0, 0, ""), x.digest());
    }

    private static void promise25TheLeastNodeWasTaken() {
        TreeKayles x = Due.forest("...");
        x.take(0);
        due.is("digest()", Looks.digest(x, 0, 0, ""), x.digest());
    }

    private static void promise25FourteenLoneNodes() {
        TreeKayles x = Due.forest(Due.lone(14));
        due.is("digest()", Looks.digest(x, 0, 0, ""), x.digest());
    }

    private static void promise25FourMirrorsOfSeven() {
        TreeKayles x = pairs();
        due.is("digest()", Looks.digest(x, 0, 0, ""), x.digest());
    }

    private static void promise25OneSlot() {
        TreeKayles x = Due.forest(".a");
        x.keep(0);
        due.is("digest() with slot 0", Looks.digest(x, 1, 0, ""), x.digest());
        TreeKayles y = Due.forest(".a");
        y.keep(1);
        due.is("digest() with slot 1", Looks.digest(y, 0, 1, ""), y.digest());
    }

    private static void promise25BothSlots() {
        TreeKayles x = Due.forest(".a");
        x.keep(0);
        x.keep(1);
        due.is("digest()", Looks.digest(x, 1, 1, ""), x.digest());
    }

    private static void promise25TheFullBuffer() {
        TreeKayles x = Due.forest(".a");
        Due.type(x, "!~.abcdefghijk");
        due.is("digest()", Looks.digest(x, 0, 0, "!~.abcdefghijk"), x.digest());
    }

    private static void promise25TheClearedBuffer() {
        TreeKayles x = Due.forest(".a");
        Due.type(x, "!~.abc");
        x.clearBuffer();
        due.is("digest()", Looks.digest(x, 0, 0, ""), x.digest());
    }

    private static void promise25SixSavedStates() {
        TreeKayles x = Due.forest(Due.path(14));
        for (int time = 0; time < 7; time++) {
            x.again();
        }
        due.is("digest()", Looks.digest(x, 0, 0, ""), x.digest());
    }

    /** Shares from 0.0 to 1.0, among them such as have no end in binary digits. */
    private static void promise25TheBitsOfAShare() {
        String[] forests = {"..", ".", ".ab", ".aaaa", ".ab.", ".aaaaaa", Due.star(12), ".abcd.", ".abcdefghijk"};
        for (String text : forests) {
            TreeKayles x = Due.forest(text);
            due.is("digest() of " + text, Looks.digest(x, 0, 0, ""), x.digest());
        }
    }
}
