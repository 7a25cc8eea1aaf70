/** Boundary cases of promises 5 to 7, and of the terms "The game" and "Classes": one test for each. */
public final class BoundsOfGameTest {
    private static final Due due = new Due();

    public static void main(String[] args) throws IllegalAccessException {
        due.runEach(BoundsOfGameTest.class);
        due.end("BoundsOfGameTest");
    }

    // ---- take

    private static void promise05ALoneNode() {
        TreeKayles x = Due.forest("...");
        due.is("take(1)", 1, x.take(1));
        due.is("count(1)", 2, x.count(1));
    }

    private static void promise05TheLeastNode() {
        TreeKayles x = Due.forest(Due.path(14));
        due.is("take(0)", 2, x.take(0));
        due.is("neighbours of 2", 0b1000, x.nodeOf(2, 1));
    }

    private static void promise05TheGreatestNode() {
        TreeKayles x = Due.forest(Due.path(14));
        due.is("take(13)", 2, x.take(13));
        due.is("12 was taken", 0, x.nodeOf(12, 0));
        due.is("11 is there", 1, x.nodeOf(11, 0));
    }

    private static void promise05AllAtOnce() {
        TreeKayles x = Due.forest(Due.star(13));
        due.is("take(0)", 14, x.take(0));
        due.is("count(1)", 0, x.count(1));
    }

    private static void promise05ALeafTakesItsNeighbourOnly() {
        TreeKayles x = Due.forest(Due.star(13));
        due.is("take(13)", 2, x.take(13));
        due.is("count(1)", 12, x.count(1));
    }

    private static void promise05TakenNeighboursDoNotCount() {
        TreeKayles x = Due.forest(Due.path(5));
        x.take(0);
        due.is("take(2)", 2, x.take(2));
        due.is("take(4)", 1, x.take(4));
    }

    private static void promise05TheLastNode() {
        TreeKayles x = Due.forest(".");
        due.is("take(0)", 1, x.take(0));
        due.is("count(0)", 1, x.count(0));
        due.is("count(1)", 0, x.count(1));
        due.is("count(3)", 0, x.count(3));
        due.is("count(5): who is on the move has lost", 0, x.count(5));
        due.is("count(7): or won, in the misere game", 1, x.count(7));
        due.is("count(8)", 1, x.count(8));
        due.is("count(9)", 1, x.count(9));
        due.is("best()", TreeKayles.NONE, x.best());
    }

    private static void promise05NoNodeIsLeft() {
        TreeKayles x = Due.forest(".a");
        x.take(0);
        due.failsState("take(0)", x, () -> x.take(0));
        due.failsState("take(1)", x, () -> x.take(1));
        due.failsIndex("take(2)", x, () -> x.take(2));
    }

    private static void promise05ANodeThatWasChosen() {
        TreeKayles x = Due.forest(".a.");
        x.take(0);
        due.failsState("take(0)", x, () -> x.take(0));
    }

    private static void promise05ANodeThatWasTakenAsANeighbour() {
        TreeKayles x = Due.forest(".a.");
        x.take(0);
        due.failsState("take(1)", x, () -> x.take(1));
    }

    private static void promise05OneBelowTheLeast() {
        TreeKayles x = Due.forest("..");
        due.failsIndex("take(NONE)", x, () -> x.take(TreeKayles.NONE));
        due.failsIndex("take(least)", x, () -> x.take(Integer.MIN_VALUE));
    }

    private static void promise05OneBeyondTheGreatest() {
        TreeKayles x = Due.forest("..");
        due.failsIndex("take(2)", x, () -> x.take(2));
        due.failsIndex("take(32)", x, () -> x.take(32));
        due.failsIndex("take(greatest)", x, () -> x.take(Integer.MAX_VALUE));
    }

    private static void promise05OneBeyondFourteen() {
        TreeKayles x = Due.forest(Due.lone(14));
        due.failsIndex("take(14)", x, () -> x.take(14));
    }

    private static void promise05WithoutNodes() {
        TreeKayles x = new TreeKayles();
        due.failsIndex("take(0)", x, () -> x.take(0));
    }

    private static void promise05PlayersMoveByTurns() {
        TreeKayles x = Due.forest(Due.lone(14));
        for (int move = 0; move < 14; move++) {
            due.is("the player ahead of move " + move, move % 2, x.count(8));
            x.take(13 - move);
            due.is("count(9)", move + 1, x.count(9));
        }
        due.is("the player behind the last move", 0, x.count(8));
    }

    private static void promise05IsUndoable() {
        TreeKayles x = Due.forest(".ab");
        x.take(1);
        due.is("count(11)", 2, x.count(11));
        due.is("undo()", 1, x.undo());
        due.is("count(1)", 3, x.count(1));
        due.is("count(8)", 0, x.count(8));
        due.is("count(9)", 0, x.count(9));
    }

    // ---- reply

    private static void promise06WithoutNodes() {
        TreeKayles x = new TreeKayles();
        due.failsState("reply()", x, x::reply);
    }

    private static void promise06AllWereTaken() {
        TreeKayles x = Due.forest(".a.");
        x.take(0);
        x.take(2);
        due.failsState("reply()", x, x::reply);
    }

    private static void promise06TheLastNode() {
        TreeKayles x = Due.forest("..............");
        for (int node = 0; node < 13; node++) {
            x.take(node);
        }
        due.is("reply()", 13, x.reply());
        due.is("count(1)", 0, x.count(1));
        due.failsState("reply() then", x, x::reply);
    }

    private static void promise06TheLowestOfTheWinningOnes() {
        TreeKayles x = Due.forest("...");
        due.is("count(10)", 3, x.count(10));
        due.is("reply()", 0, x.reply());
    }

    private static void promise06TheOnlyWinningOneIsNotTheLowest() {
        TreeKayles x = Due.forest(".ab");
        due.is("count(10)", 1, x.count(10));
        due.is("reply()", 1, x.reply());
        due.is("count(1)", 0, x.count(1));
    }

    private static void promise06TheOnlyWinningOneIsTheGreatest() {
        TreeKayles x = Due.forest(Due.lone(13));
        x.node(TreeKayles.NONE);
        for (int leaf = 1; leaf < 13; leaf++) {
            x.join(13, leaf);
        }
        x.take(0);
        due.is("count(10)", 1, x.count(10));
        due.is("reply()", 13, x.reply());
    }

    private static void promise06NoWinningOne() {
        TreeKayles x = Due.forest("..");
        due.is("best()", TreeKayles.NONE, x.best());
        due.is("reply()", 0, x.reply());
    }

    private static void promise06NoWinningOneAndTheLowestWasTaken() {
        TreeKayles x = Due.forest(".a..");
        x.take(1);
        due.is("best()", TreeKayles.NONE, x.best());
        due.is("reply()", 2, x.reply());
    }

    private static void promise06ThePlayerThen() {
        TreeKayles x = Due.forest("..");
        x.reply();
        due.is("count(8)", 1, x.count(8));
        due.is("count(9)", 1, x.count(9));
        x.reply();
        due.is("count(8)", 0, x.count(8));
        due.is("count(9)", 2, x.count(9));
    }

    private static void promise06IsUndoable() {
        TreeKayles x = Due.forest(".ab");
        x.reply();
        due.is("count(11)", 2, x.count(11));
        due.is("undo()", 1, x.undo());
        due.is("count(1)", 3, x.count(1));
        due.is("reply()", 1, x.reply());
    }

    // ---- again

    private static void promise07NothingWasTaken() {
        TreeKayles x = Due.forest(".ab");
        due.is("again()", 0, x.again());
        due.is("count(1)", 3, x.count(1));
        due.is("count(9)", 0, x.count(9));
    }

    private static void promise07WithoutNodes() {
        TreeKayles x = new TreeKayles();
        due.is("again()", 0, x.again());
        due.is("count(0)", 0, x.count(0));
    }

    private static void promise07AllWereTaken() {
        TreeKayles x = Due.forest(Due.star(13));
        x.take(0);
        due.is("again()", 14, x.again());
        due.is("count(1)", 14, x.count(1));
        due.is("count(2)", 13, x.count(2));
    }

    private static void promise07OneWasTaken() {
        TreeKayles x = Due.forest("..");
        x.take(1);
        due.is("again()", 1, x.again());
        due.is("1 is there", 1, x.nodeOf(1, 0));
    }

    private static void promise07BehindAnOddNumberOfMoves() {
        TreeKayles x = Due.forest("...");
        x.take(2);
        x.again();
        due.is("count(8)", 0, x.count(8));
        due.is("count(9)", 0, x.count(9));
    }

    private static void promise07BehindAnEvenNumberOfMoves() {
        TreeKayles x = Due.forest("...");
        x.take(2);
        x.take(0);
        x.again();
        due.is("count(8)", 0, x.count(8));
        due.is("count(9)", 0, x.count(9));
    }

    private static void promise07EdgesBetweenTakenNodes() {
        TreeKayles x = Due.forest(".abc");
        x.take(1);
        x.again();
        due.is("neighbours of 0", 0b0010, x.nodeOf(0, 1));
        due.is("neighbours of 1", 0b0101, x.nodeOf(1, 1));
        due.is("neighbours of 2", 0b1010, x.nodeOf(2, 1));
        due.is("neighbours of 3", 0b0100, x.nodeOf(3, 1));
    }

    private static void promise07EdgesThatWereCutInTheGame() {
        TreeKayles x = Due.forest(".abcd");
        x.take(0);
        x.cut(3, 4);
        x.again();
        due.is("count(2)", 3, x.count(2));
        due.is("neighbours of 4", 0, x.nodeOf(4, 1));
    }

    private static void promise07EdgesThatWereJoinedInTheGame() {
        TreeKayles x = Due.forest(".a..");
        x.take(0);
        x.join(2, 3);
        x.again();
        due.is("count(2)", 2, x.count(2));
        due.is("neighbours of 3", 0b0100, x.nodeOf(3, 1));
    }

    private static void promise07NodesThatCameInTheGame() {
        TreeKayles x = Due.forest(".");
        x.take(0);
        x.node(TreeKayles.NONE);
        due.is("again()", 1, x.again());
        due.is("count(1)", 2, x.count(1));
    }

    private static void promise07IsUndoable() {
        TreeKayles x = Due.forest("...");
        x.take(1);
        x.again();
        due.is("count(11)", 3, x.count(11));
        due.is("undo()", 2, x.undo());
        due.is("1 was taken", 0, x.nodeOf(1, 0));
        due.is("count(8)", 1, x.count(8));
        due.is("count(9)", 1, x.count(9));
    }

    // ---- the terms

    private static void termsTheValueOfNothing() {
        due.is("value(0)", 0, Due.forest(".").value(0));
        due.is("count(5)", 0, new TreeKayles().count(5));
    }

    /** What can be left of a way of six has the values 0 and 2: the least other number is 1. */
    private static void termsTheLeastValueThatIsMissing() {
        TreeKayles x = Due.forest(Due.path(6));
        int[] left = {0, 2, 0, 0, 2, 0};
        for (int node = 0; node < 6; node++) {
            due.is("nodeOf(" + node + ", 3)", left[node], x.nodeOf(node, 3));
        }
        due.is("count(5)", 1, x.count(5));
    }

    private static void termsTheValueZeroOfATree() {
        TreeKayles x = Due.forest(Due.path(4));
        for (int node = 0; node < 4; node++) {
            due.is("nodeOf(" + node + ", 3)", 1, x.nodeOf(node, 3));
        }
        due.is("count(5)", 0, x.count(5));
    }

    private static void termsAGreatValue() {
        due.is("a way of 13 nodes", 4, Due.forest(Due.path(13)).count(5));
    }

    private static void termsValuesAreAddedWithoutCarry() {
        TreeKayles x = Due.forest(".ab.");
        due.is("tree(0, 2)", 2, x.tree(0, 2));
        due.is("tree(1, 2)", 1, x.tree(1, 2));
        due.is("2 and 1", 3, x.count(5));
        TreeKayles y = Due.forest(".abcd.fg");
        due.is("tree(0, 2)", 3, y.tree(0, 2));
        due.is("tree(1, 2)", 2, y.tree(1, 2));
        due.is("3 and 2", 1, y.count(5));
    }

    private static void termsEqualValuesGiveZero() {
        TreeKayles x = Due.forest(".abcdef.hijklm");
        due.is("tree(0, 2)", 1, x.tree(0, 2));
        due.is("tree(1, 2)", 1, x.tree(1, 2));
        due.is("count(5)", 0, x.count(5));
    }

    private static void termsMisereNothing() {
        due.is("count(7)", 1, new TreeKayles().count(7));
    }

    private static void termsMisereOneNode() {
        due.is("count(7)", 0, Due.forest(".").count(7));
    }

    private static void termsMisereTwoNodes() {
        due.is("lone", 1, Due.forest("..").count(7));
        due.is("joined", 0, Due.forest(".a").count(7));
    }

    private static void termsMisereFourteenLoneNodes() {
        due.is("count(7)", 1, Due.forest(Due.lone(14)).count(7));
        due.is("13 nodes", 0, Due.forest(Due.lone(13)).count(7));
    }

    /** Two ways of three: the ordinary game is lost for the player on the move, and so is the misere game. */
    private static void termsMisereIsNotTheContrary() {
        TreeKayles x = Due.forest(".ab.de");
        due.is("count(5)", 0, x.count(5));
        due.is("count(7)", 0, x.count(7));
    }

    private static void termsMisereOnlyTheLeastNodeWins() {
        TreeKayles x = Due.forest(".aa.");
        int[] wins = {1, 0, 0, 0};
        for (int node = 0; node < 4; node++) {
            due.is("nodeOf(" + node + ", 5)", wins[node], x.nodeOf(node, 5));
        }
        due.is("count(7)", 1, x.count(7));
    }

    private static void termsMisereOnlyTheGreatestNodeWins() {
        TreeKayles x = Due.forest(Due.lone(14));
        x.join(13, 11);
        x.join(13, 12);
        for (int node = 0; node < 14; node++) {
            due.is("nodeOf(" + node + ", 5)", node == 13 ? 1 : 0, x.nodeOf(node, 5));
        }
        due.is("count(7)", 1, x.count(7));
    }

    private static void termsLoneNodesAreOfOneClass() {
        TreeKayles x = Due.forest(Due.lone(14));
        due.is("count(4)", 1, x.count(4));
        due.is("tree(13, 3)", 0, x.tree(13, 3));
    }

    private static void termsAsManyNodesAreNotYetOneClass() {
        due.is("a way and a star of four nodes", 2, Due.forest(".abc.eee").count(4));
    }

    /** With as many neighbours, sorted, of their nodes: legs of 1, 1, 3 and of 1, 2, 2 at a middle. */
    private static void termsAsManyNeighboursAreNotYetOneClass() {
        due.is("count(4)", 2, Due.forest(".aaade.ggigk").count(4));
    }

    private static void termsOneClassWhicheverNodesAreTheLeast() {
        due.is("a star told from its middle and from a leaf", 1, Due.forest(".aaa.eff").count(4));
        due.is("a way told from its end and from its middle", 1, Due.forest(".abc.eeg").count(4));
    }

    private static void termsTheGreatestTreesOfOneClass() {
        due.is("branched trees of seven nodes", 1, Due.forest(".aabbcc.hiikll").count(4));
    }

    private static void termsTreesOfOtherSizesAreOfOtherClasses() {
        for (int nodes = 1; nodes < 14; nodes++) {
            int want = nodes == 7 ? 1 : 2;
            TreeKayles ways = Due.forest(Due.path(14));
            ways.cut(nodes - 1, nodes);
            due.is("ways of " + nodes + " and " + (14 - nodes), want, ways.count(4));
            TreeKayles stars = Due.forest(Due.star(nodes - 1));
            int middle = stars.node(TreeKayles.NONE);
            while (stars.count(0) < 14) {
                stars.node(middle);
            }
            due.is("stars of " + nodes + " and " + (14 - nodes), want, stars.count(4));
            due.is("the class of the second one", want - 1, stars.tree(1, 3));
        }
    }
}
