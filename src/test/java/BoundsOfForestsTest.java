/** Boundary cases of promises 1 to 4, and of the term "Forests": one test for each. */
public final class BoundsOfForestsTest {
    private static final Due due = new Due();

    public static void main(String[] args) throws IllegalAccessException {
        due.runEach(BoundsOfForestsTest.class);
        due.end("BoundsOfForestsTest");
    }

    // ---- a new object

    private static void promise01NoNodes() {
        TreeKayles x = new TreeKayles();
        for (int what = 0; what < 7; what++) {
            due.is("count(" + what + ")", 0, x.count(what));
        }
        due.is("count(10)", 0, x.count(10));
    }

    private static void promise01PlayerZeroIsOnTheMove() {
        TreeKayles x = new TreeKayles();
        due.is("count(8)", 0, x.count(8));
        due.is("count(9)", 0, x.count(9));
    }

    private static void promise01SlotZeroIsEmpty() {
        TreeKayles x = new TreeKayles();
        due.failsState("goBack(0)", x, () -> x.goBack(0));
    }

    private static void promise01SlotOneIsEmpty() {
        TreeKayles x = new TreeKayles();
        due.failsState("goBack(1)", x, () -> x.goBack(1));
    }

    private static void promise01TheBufferIsEmpty() {
        due.is("clearBuffer()", 0, new TreeKayles().clearBuffer());
    }

    private static void promise01NoStateIsSaved() {
        TreeKayles x = new TreeKayles();
        due.is("count(11)", 0, x.count(11));
        due.failsState("undo()", x, x::undo);
    }

    private static void promise01ObjectsShareNothing() {
        TreeKayles x = new TreeKayles();
        long before = x.digest();
        TreeKayles other = Due.forest(".ab");
        other.take(0);
        other.keep(0);
        other.append('a');
        due.is("digest() behind another object's calls", before, x.digest());
    }

    // ---- node

    private static void promise02TheFirstNode() {
        TreeKayles x = new TreeKayles();
        due.is("node(NONE)", 0, x.node(TreeKayles.NONE));
        due.is("count(0)", 1, x.count(0));
    }

    private static void promise02NoneGivesNoEdge() {
        TreeKayles x = Due.forest(Due.lone(13));
        x.node(TreeKayles.NONE);
        due.is("count(2)", 0, x.count(2));
        due.is("neighbours of 13", 0, x.nodeOf(13, 1));
    }

    private static void promise02ToTheLeastNode() {
        TreeKayles x = Due.forest("...");
        due.is("node(0)", 3, x.node(0));
        due.is("neighbours of 0", 0b1000, x.nodeOf(0, 1));
        due.is("neighbours of 3", 0b0001, x.nodeOf(3, 1));
    }

    private static void promise02ToTheGreatestNode() {
        TreeKayles x = Due.forest("...");
        due.is("node(2)", 3, x.node(2));
        due.is("neighbours of 2", 0b1000, x.nodeOf(2, 1));
        due.is("neighbours of 3", 0b0100, x.nodeOf(3, 1));
    }

    private static void promise02ToOneBeyondTheGreatest() {
        TreeKayles x = Due.forest("...");
        due.failsIndex("node(3)", x, () -> x.node(3));
    }

    private static void promise02ToOneBelowNone() {
        TreeKayles x = Due.forest("...");
        due.failsIndex("node(-2)", x, () -> x.node(-2));
    }

    private static void promise02ToTheEndsOfInt() {
        TreeKayles x = Due.forest("...");
        due.failsIndex("node(least)", x, () -> x.node(Integer.MIN_VALUE));
        due.failsIndex("node(greatest)", x, () -> x.node(Integer.MAX_VALUE));
    }

    /** Bits of a mask wrap around at 32: 32 and 34 must not pass for 0 and 2. */
    private static void promise02ToNumbersThatWrapAround() {
        TreeKayles x = Due.forest("...");
        due.failsIndex("node(32)", x, () -> x.node(32));
        due.failsIndex("node(34)", x, () -> x.node(34));
        due.failsIndex("node(-32)", x, () -> x.node(-32));
    }

    private static void promise02ToANodeWithoutNodes() {
        TreeKayles x = new TreeKayles();
        due.failsIndex("node(0)", x, () -> x.node(0));
    }

    private static void promise02TheFourteenthNode() {
        TreeKayles x = Due.forest(Due.path(13));
        due.is("node(12)", 13, x.node(12));
        due.is("count(0)", 14, x.count(0));
        due.is("count(2)", 13, x.count(2));
    }

    private static void promise02TheFifteenthNode() {
        TreeKayles x = Due.forest(Due.path(13));
        x.node(12);
        due.failsState("node(13)", x, () -> x.node(13));
        due.failsState("node(NONE)", x, () -> x.node(TreeKayles.NONE));
    }

    private static void promise02FourteenLoadedNodes() {
        TreeKayles x = Due.forest(Due.lone(14));
        due.failsState("node(NONE)", x, () -> x.node(TreeKayles.NONE));
        due.failsState("node(0)", x, () -> x.node(0));
    }

    private static void promise02FourteenTakenNodes() {
        TreeKayles x = Due.forest(Due.star(13));
        x.take(0);
        due.is("count(1)", 0, x.count(1));
        due.failsState("node(NONE)", x, () -> x.node(TreeKayles.NONE));
    }

    private static void promise02ThirteenTakenNodes() {
        TreeKayles x = Due.forest(Due.star(12));
        x.take(0);
        due.is("node(NONE)", 13, x.node(TreeKayles.NONE));
        due.is("count(1)", 1, x.count(1));
    }

    private static void promise02RoomAgainByUndo() {
        TreeKayles x = Due.forest(Due.lone(13));
        x.node(0);
        x.undo();
        due.is("node(1)", 13, x.node(1));
        due.is("neighbours of 13", 0b10, x.nodeOf(13, 1));
        due.is("neighbours of 0", 0, x.nodeOf(0, 1));
    }

    private static void promise02ToANodeThatWasChosen() {
        TreeKayles x = Due.forest(".a.");
        x.take(0);
        due.failsState("node(0)", x, () -> x.node(0));
    }

    private static void promise02ToANodeThatWasTakenAsANeighbour() {
        TreeKayles x = Due.forest(".a.");
        x.take(0);
        due.failsState("node(1)", x, () -> x.node(1));
        due.is("node(2), which is there", 3, x.node(2));
    }

    private static void promise02ToANodeThatWasPutBack() {
        TreeKayles x = Due.forest(".a");
        x.take(0);
        x.again();
        due.is("node(0)", 2, x.node(0));
    }

    private static void promise02InTheGame() {
        TreeKayles x = Due.forest("..");
        x.take(1);
        due.is("node(NONE)", 2, x.node(TreeKayles.NONE));
        due.is("it is there", 1, x.nodeOf(2, 0));
        due.is("1 is not", 0, x.nodeOf(1, 0));
        due.is("count(8)", 1, x.count(8));
        due.is("count(9)", 1, x.count(9));
    }

    private static void promise02IsUndoable() {
        TreeKayles x = new TreeKayles();
        x.node(TreeKayles.NONE);
        due.is("count(11)", 1, x.count(11));
        due.is("undo()", 0, x.undo());
        due.is("count(0)", 0, x.count(0));
    }

    // ---- join

    private static void promise03TheLeastAndTheGreatest() {
        TreeKayles x = Due.forest(Due.lone(14));
        due.is("join(0, 13)", 13, x.join(0, 13));
        due.is("neighbours of 0", 1 << 13, x.nodeOf(0, 1));
        due.is("neighbours of 13", 1, x.nodeOf(13, 1));
    }

    private static void promise03TheGreaterFirst() {
        TreeKayles x = Due.forest(Due.lone(14));
        due.is("join(13, 0)", 13, x.join(13, 0));
        due.is("neighbours of 0", 1 << 13, x.nodeOf(0, 1));
    }

    private static void promise03TheLastTwoTrees() {
        TreeKayles x = Due.forest(".abcdef.hijklm");
        due.is("join(6, 7)", 1, x.join(6, 7));
        due.is("count(2)", 13, x.count(2));
    }

    private static void promise03OneBelowTheLeast() {
        TreeKayles x = Due.forest("...");
        due.failsIndex("join(-1, 0)", x, () -> x.join(-1, 0));
        due.failsIndex("join(0, -1)", x, () -> x.join(0, -1));
    }

    private static void promise03OneBeyondTheGreatest() {
        TreeKayles x = Due.forest("...");
        due.failsIndex("join(3, 0)", x, () -> x.join(3, 0));
        due.failsIndex("join(0, 3)", x, () -> x.join(0, 3));
    }

    private static void promise03BeyondFourteenNodes() {
        TreeKayles x = Due.forest(Due.lone(14));
        due.failsIndex("join(14, 0)", x, () -> x.join(14, 0));
        due.failsIndex("join(0, 14)", x, () -> x.join(0, 14));
        due.failsIndex("join(32, 1)", x, () -> x.join(32, 1));
        due.failsIndex("join(1, greatest)", x, () -> x.join(1, Integer.MAX_VALUE));
        due.failsIndex("join(least, 1)", x, () -> x.join(Integer.MIN_VALUE, 1));
    }

    private static void promise03WithoutNodes() {
        TreeKayles x = new TreeKayles();
        due.failsIndex("join(0, 0)", x, () -> x.join(0, 0));
        due.failsIndex("join(0, 1)", x, () -> x.join(0, 1));
    }

    private static void promise03BothNodesTheSame() {
        TreeKayles x = Due.forest("...");
        due.failsState("join(0, 0)", x, () -> x.join(0, 0));
        due.failsState("join(2, 2)", x, () -> x.join(2, 2));
    }

    private static void promise03BothTheSameAndTaken() {
        TreeKayles x = Due.forest("...");
        x.take(1);
        due.failsState("join(1, 1)", x, () -> x.join(1, 1));
    }

    private static void promise03TheFirstWasTaken() {
        TreeKayles x = Due.forest("...");
        x.take(1);
        due.failsState("join(1, 2)", x, () -> x.join(1, 2));
    }

    private static void promise03TheSecondWasTaken() {
        TreeKayles x = Due.forest("...");
        x.take(1);
        due.failsState("join(2, 1)", x, () -> x.join(2, 1));
    }

    private static void promise03BothWereTaken() {
        TreeKayles x = Due.forest("...");
        x.take(1);
        x.take(2);
        due.failsState("join(1, 2)", x, () -> x.join(1, 2));
    }

    private static void promise03TakenAsANeighbour() {
        TreeKayles x = Due.forest(".a.");
        x.take(0);
        due.failsState("join(1, 2)", x, () -> x.join(1, 2));
    }

    private static void promise03ThereIsAnEdge() {
        TreeKayles x = Due.forest(".a.");
        due.failsState("join(0, 1)", x, () -> x.join(0, 1));
        due.failsState("join(1, 0)", x, () -> x.join(1, 0));
    }

    private static void promise03TheLeastCycle() {
        TreeKayles x = Due.forest(".ab");
        due.failsState("join(0, 2)", x, () -> x.join(0, 2));
        due.failsState("join(2, 0)", x, () -> x.join(2, 0));
    }

    private static void promise03TheGreatestCycle() {
        TreeKayles x = Due.forest(Due.path(14));
        due.failsState("join(0, 13)", x, () -> x.join(0, 13));
        due.failsState("join(13, 0)", x, () -> x.join(13, 0));
    }

    private static void promise03ACycleByWayOfOneTakenNode() {
        TreeKayles x = Due.forest(".aaa");
        x.take(1);
        due.is("2 and 3 are two trees", 2, x.count(3));
        due.failsState("join(2, 3)", x, () -> x.join(2, 3));
        due.failsState("join(3, 2)", x, () -> x.join(3, 2));
    }

    private static void promise03ACycleByWayOfManyTakenNodes() {
        TreeKayles x = Due.forest(Due.path(14));
        x.take(2);
        x.take(5);
        x.take(8);
        x.take(11);
        due.is("0 and 13 are two trees", 2, x.count(3));
        due.failsState("join(0, 13)", x, () -> x.join(0, 13));
    }

    private static void promise03ACycleByWayOfAnEdgeOfTheGame() {
        TreeKayles x = Due.forest(".aaa.");
        x.join(4, 2);
        x.take(1);
        due.failsState("join(3, 4)", x, () -> x.join(3, 4));
    }

    private static void promise03NoCycleWhenTheWayWasCut() {
        TreeKayles x = Due.forest(".aaa");
        x.cut(0, 2);
        x.take(1);
        due.is("join(2, 3)", 1, x.join(2, 3));
        x.again();
        due.is("count(3)", 1, x.count(3));
        due.is("count(2)", 3, x.count(2));
    }

    private static void promise03TreesOfTakenNodesDoNotCount() {
        TreeKayles x = Due.forest("....");
        x.take(0);
        due.is("join(2, 3)", 2, x.join(2, 3));
    }

    private static void promise03IsUndoable() {
        TreeKayles x = Due.forest("..");
        x.join(0, 1);
        due.is("count(11)", 2, x.count(11));
        due.is("undo()", 1, x.undo());
        due.is("count(2)", 0, x.count(2));
        due.is("join(0, 1)", 1, x.join(0, 1));
    }

    // ---- cut

    private static void promise04TheOnlyEdge() {
        TreeKayles x = Due.forest(".a");
        due.is("cut(0, 1)", 1, x.cut(0, 1));
        due.is("count(2)", 0, x.count(2));
        due.is("count(3)", 2, x.count(3));
    }

    private static void promise04TheGreaterFirst() {
        TreeKayles x = Due.forest(".a");
        due.is("cut(1, 0)", 1, x.cut(1, 0));
        due.is("neighbours of 0", 0, x.nodeOf(0, 1));
        due.is("neighbours of 1", 0, x.nodeOf(1, 1));
    }

    private static void promise04TheGreatestHalves() {
        due.is("cut(6, 7) of 14", 1, Due.forest(Due.path(14)).cut(6, 7));
    }

    private static void promise04OneNodeBesideTheMiddle() {
        due.is("cut(5, 6) of 14", 0, Due.forest(Due.path(14)).cut(5, 6));
        due.is("cut(7, 8) of 14", 0, Due.forest(Due.path(14)).cut(7, 8));
    }

    private static void promise04HalvesJoinedAtOtherNodes() {
        due.is("a middle and an end", 1, Due.forest(".aaade").cut(0, 3));
    }

    private static void promise04HalvesOfAsManyNodesThatAreNotAlike() {
        due.is("a way and a star of four nodes", 0, Due.forest(".abcaeee").cut(0, 4));
    }

    private static void promise04OneBelowTheLeast() {
        TreeKayles x = Due.forest(".ab");
        due.failsIndex("cut(-1, 0)", x, () -> x.cut(-1, 0));
        due.failsIndex("cut(0, -1)", x, () -> x.cut(0, -1));
    }

    private static void promise04OneBeyondTheGreatest() {
        TreeKayles x = Due.forest(".ab");
        due.failsIndex("cut(3, 2)", x, () -> x.cut(3, 2));
        due.failsIndex("cut(2, 3)", x, () -> x.cut(2, 3));
    }

    private static void promise04BeyondFourteenNodes() {
        TreeKayles x = Due.forest(Due.path(14));
        due.failsIndex("cut(14, 13)", x, () -> x.cut(14, 13));
        due.failsIndex("cut(13, 14)", x, () -> x.cut(13, 14));
        due.failsIndex("cut(32, 1)", x, () -> x.cut(32, 1));
        due.failsIndex("cut(0, 33)", x, () -> x.cut(0, 33));
        due.failsIndex("cut(least, greatest)", x, () -> x.cut(Integer.MIN_VALUE, Integer.MAX_VALUE));
    }

    private static void promise04WithoutNodes() {
        TreeKayles x = new TreeKayles();
        due.failsIndex("cut(0, 0)", x, () -> x.cut(0, 0));
        due.failsIndex("cut(0, 1)", x, () -> x.cut(0, 1));
    }

    private static void promise04BothNodesTheSame() {
        TreeKayles x = Due.forest(".ab");
        due.failsState("cut(1, 1)", x, () -> x.cut(1, 1));
    }

    private static void promise04NoEdgeInOneTree() {
        TreeKayles x = Due.forest(".ab");
        due.failsState("cut(0, 2)", x, () -> x.cut(0, 2));
    }

    private static void promise04NoEdgeBetweenTrees() {
        TreeKayles x = Due.forest(".a.c");
        due.failsState("cut(0, 2)", x, () -> x.cut(0, 2));
    }

    private static void promise04CutTwice() {
        TreeKayles x = Due.forest(".ab");
        x.cut(0, 1);
        due.failsState("cut(0, 1)", x, () -> x.cut(0, 1));
        due.failsState("cut(1, 0)", x, () -> x.cut(1, 0));
    }

    private static void promise04TheFirstWasTaken() {
        TreeKayles x = Due.forest(".ab");
        x.take(0);
        due.failsState("cut(1, 2)", x, () -> x.cut(1, 2));
    }

    private static void promise04TheSecondWasTaken() {
        TreeKayles x = Due.forest(".ab");
        x.take(0);
        due.failsState("cut(2, 1)", x, () -> x.cut(2, 1));
    }

    private static void promise04BothWereTaken() {
        TreeKayles x = Due.forest(".ab");
        x.take(0);
        due.failsState("cut(0, 1)", x, () -> x.cut(0, 1));
    }

    private static void promise04AMirrorOfWhatIsLeft() {
        TreeKayles x = Due.forest(Due.path(6));
        x.take(0);
        due.is("cut(3, 4)", 1, x.cut(3, 4));
    }

    private static void promise04AMirrorOfWhatIsLeftOnTheOtherSide() {
        TreeKayles x = Due.forest(Due.path(6));
        x.take(5);
        due.is("cut(1, 2)", 1, x.cut(1, 2));
    }

    private static void promise04NoMirrorOfWhatIsLeft() {
        TreeKayles x = Due.forest(Due.path(8));
        x.take(0);
        due.is("cut(3, 4)", 0, x.cut(3, 4));
        TreeKayles y = Due.forest(Due.path(8));
        y.take(7);
        due.is("cut(3, 4) with the other end taken", 0, y.cut(3, 4));
    }

    private static void promise04JoinedAgain() {
        TreeKayles x = Due.forest(".ab");
        x.cut(0, 1);
        due.is("join(0, 2)", 1, x.join(0, 2));
        due.is("neighbours of 2", 0b011, x.nodeOf(2, 1));
    }

    private static void promise04IsUndoable() {
        TreeKayles x = Due.forest(".a");
        x.cut(0, 1);
        due.is("count(11)", 2, x.count(11));
        due.is("undo()", 1, x.undo());
        due.is("count(2)", 1, x.count(2));
    }

    // ---- the terms

    private static void termsNodesAreNumberedAsTheyCame() {
        TreeKayles x = new TreeKayles();
        for (int node = 0; node < 14; node++) {
            due.is("node(NONE)", node, x.node(TreeKayles.NONE));
        }
    }

    private static void termsFourteenTrees() {
        TreeKayles x = Due.forest(Due.lone(14));
        due.is("count(3)", 14, x.count(3));
        due.is("tree of 13", 13, x.nodeOf(13, 2));
        due.is("tree(13, 0)", 1 << 13, x.tree(13, 0));
    }

    private static void termsOneTreeOfFourteen() {
        TreeKayles x = Due.forest(Due.path(14));
        due.is("count(3)", 1, x.count(3));
        due.is("tree(0, 0)", (1 << 14) - 1, x.tree(0, 0));
    }

    private static void termsTreesAreNumberedByTheirLeastNodes() {
        TreeKayles x = Due.forest("....");
        x.join(0, 3);
        due.is("tree(0, 0)", 0b1001, x.tree(0, 0));
        due.is("tree(1, 0)", 0b0010, x.tree(1, 0));
        due.is("tree(2, 0)", 0b0100, x.tree(2, 0));
    }

    private static void termsTakenNodesGiveTreesOtherNumbers() {
        TreeKayles x = Due.forest(".a.c");
        x.take(1);
        due.is("tree(0, 0)", 0b1100, x.tree(0, 0));
        due.is("tree of 3", 0, x.nodeOf(3, 2));
    }

    private static void termsTakenNodesPartATree() {
        TreeKayles x = Due.forest(Due.path(5));
        x.take(2);
        due.is("count(3)", 2, x.count(3));
        due.is("tree of 4", 1, x.nodeOf(4, 2));
    }

    private static void termsEdgesOfTakenNodesDoNotCount() {
        TreeKayles x = Due.forest(Due.path(4));
        x.take(0);
        due.is("count(2)", 1, x.count(2));
        due.is("neighbours of 2", 0b1000, x.nodeOf(2, 1));
        due.is("neighbours of 1, which was taken", 0, x.nodeOf(1, 1));
    }

    private static void termsEdgesOfTakenNodesOnBothSidesDoNotCount() {
        TreeKayles x = Due.forest(Due.path(7));
        x.take(3);
        due.is("count(2)", 2, x.count(2));
        due.is("neighbours of 1", 0b0000001, x.nodeOf(1, 1));
        due.is("neighbours of 5", 0b1000000, x.nodeOf(5, 1));
    }

    private static void termsAllEdgesOfAMiddleWereTaken() {
        TreeKayles x = Due.forest(Due.star(13));
        x.take(13);
        due.is("count(2)", 0, x.count(2));
        due.is("count(3)", 12, x.count(3));
    }
}
