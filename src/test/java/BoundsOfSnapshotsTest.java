/** Boundary cases of promises 13 to 15, and of the term "Snapshots, undo": one test for each. */
public final class BoundsOfSnapshotsTest {
    private static final Due due = new Due();

    public static void main(String[] args) throws IllegalAccessException {
        due.runEach(BoundsOfSnapshotsTest.class);
        due.end("BoundsOfSnapshotsTest");
    }

    /** A new object with so many lone nodes, each of which came by a call of its own. */
    private static TreeKayles grown(int nodes) {
        TreeKayles x = new TreeKayles();
        for (int node = 0; node < nodes; node++) {
            x.node(TreeKayles.NONE);
        }
        return x;
    }

    // ---- keep

    private static void promise13SlotsBelowZero() {
        TreeKayles x = Due.forest(".");
        due.failsArgument("keep(-1)", x, () -> x.keep(-1));
        due.failsArgument("keep(least)", x, () -> x.keep(Integer.MIN_VALUE));
    }

    private static void promise13SlotsAboveOne() {
        TreeKayles x = Due.forest(".");
        due.failsArgument("keep(2)", x, () -> x.keep(2));
        due.failsArgument("keep(greatest)", x, () -> x.keep(Integer.MAX_VALUE));
    }

    private static void promise13SlotZero() {
        TreeKayles x = Due.forest("..");
        due.is("keep(0)", 2, x.keep(0));
        due.failsState("goBack(1)", x, () -> x.goBack(1));
        due.is("goBack(0)", 2, x.goBack(0));
    }

    private static void promise13SlotOne() {
        TreeKayles x = Due.forest("..");
        due.is("keep(1)", 2, x.keep(1));
        due.failsState("goBack(0)", x, () -> x.goBack(0));
        due.is("goBack(1)", 2, x.goBack(1));
    }

    private static void promise13TwoSlots() {
        TreeKayles x = Due.forest("..");
        x.keep(0);
        x.node(TreeKayles.NONE);
        x.keep(1);
        due.is("goBack(0)", 2, x.goBack(0));
        due.is("goBack(1)", 3, x.goBack(1));
    }

    private static void promise13ASlotWrittenTwice() {
        TreeKayles x = Due.forest(".a");
        x.keep(0);
        x.take(0);
        due.is("keep(0)", 0, x.keep(0));
        x.again();
        due.is("goBack(0)", 0, x.goBack(0));
        due.is("count(9)", 1, x.count(9));
    }

    private static void promise13ASlotWrittenTwiceWithFewerNodes() {
        TreeKayles x = Due.forest(Due.path(14));
        x.keep(1);
        x.load();
        due.is("keep(1)", 0, x.keep(1));
        x.node(TreeKayles.NONE);
        due.is("goBack(1)", 0, x.goBack(1));
        due.is("count(0)", 0, x.count(0));
        due.is("node(NONE)", 0, x.node(TreeKayles.NONE));
        x.node(TreeKayles.NONE);
        due.is("count(2): no edges of old", 0, x.count(2));
    }

    private static void promise13WithoutNodes() {
        TreeKayles x = new TreeKayles();
        due.is("keep(0)", 0, x.keep(0));
        due.is("goBack(0): a snapshot without nodes is one", 0, x.goBack(0));
    }

    private static void promise13OnlyNodesThatAreThere() {
        TreeKayles x = Due.forest(".ab.");
        x.take(0);
        due.is("keep(0)", 2, x.keep(0));
    }

    private static void promise13AllWereTaken() {
        TreeKayles x = Due.forest(Due.star(13));
        x.take(0);
        due.is("keep(0)", 0, x.keep(0));
        x.again();
        due.is("goBack(0)", 0, x.goBack(0));
        due.is("again()", 14, x.again());
        due.is("count(2)", 13, x.count(2));
    }

    private static void promise13IsNotUndoable() {
        TreeKayles x = Due.forest(".");
        x.keep(0);
        due.is("count(11)", 1, x.count(11));
        x.undo();
        due.is("undo() leaves the slots", 1, x.goBack(0));
    }

    // ---- goBack

    private static void promise14SlotsBelowZero() {
        TreeKayles x = Due.forest(".");
        x.keep(0);
        x.keep(1);
        due.failsArgument("goBack(-1)", x, () -> x.goBack(-1));
        due.failsArgument("goBack(least)", x, () -> x.goBack(Integer.MIN_VALUE));
    }

    private static void promise14SlotsAboveOne() {
        TreeKayles x = Due.forest(".");
        x.keep(0);
        x.keep(1);
        due.failsArgument("goBack(2)", x, () -> x.goBack(2));
        due.failsArgument("goBack(greatest)", x, () -> x.goBack(Integer.MAX_VALUE));
    }

    private static void promise14SlotsOutOfRangeWhenAllAreEmpty() {
        TreeKayles x = Due.forest(".");
        due.failsArgument("goBack(-1)", x, () -> x.goBack(-1));
        due.failsArgument("goBack(2)", x, () -> x.goBack(2));
    }

    private static void promise14EmptySlots() {
        TreeKayles x = Due.forest(".");
        due.failsState("goBack(0)", x, () -> x.goBack(0));
        due.failsState("goBack(1)", x, () -> x.goBack(1));
        due.is("count(0)", 1, x.count(0));
    }

    private static void promise14TheSnapshotStays() {
        TreeKayles x = Due.forest(".ab");
        x.keep(0);
        x.take(0);
        due.is("goBack(0)", 3, x.goBack(0));
        x.cut(0, 1);
        x.take(2);
        due.is("goBack(0) again", 3, x.goBack(0));
        due.is("count(2)", 2, x.count(2));
        due.is("count(9)", 0, x.count(9));
    }

    private static void promise14TheSnapshotIsACopy() {
        TreeKayles x = Due.forest(".a.");
        x.keep(0);
        x.cut(0, 1);
        x.join(1, 2);
        x.node(2);
        x.take(2);
        due.is("goBack(0)", 3, x.goBack(0));
        due.is("neighbours of 0", 0b010, x.nodeOf(0, 1));
        due.is("neighbours of 1", 0b001, x.nodeOf(1, 1));
        due.is("neighbours of 2", 0, x.nodeOf(2, 1));
        due.is("count(0)", 3, x.count(0));
    }

    private static void promise14ThePlayerAndTheMovesGoBack() {
        TreeKayles x = Due.forest("...");
        x.take(0);
        x.keep(0);
        x.take(1);
        x.goBack(0);
        due.is("count(8)", 1, x.count(8));
        due.is("count(9)", 1, x.count(9));
    }

    private static void promise14TakenNodesGoBack() {
        TreeKayles x = Due.forest(".ab");
        x.take(0);
        x.keep(0);
        x.again();
        due.is("goBack(0)", 1, x.goBack(0));
        due.is("again()", 2, x.again());
        due.is("count(2)", 2, x.count(2));
    }

    private static void promise14TheBufferStays() {
        TreeKayles x = Due.forest(".");
        x.append('a');
        x.keep(0);
        x.append('b');
        x.goBack(0);
        due.is("clearBuffer()", 2, x.clearBuffer());
    }

    private static void promise14TheSlotsStay() {
        TreeKayles x = Due.forest(".");
        x.keep(0);
        x.node(TreeKayles.NONE);
        x.keep(1);
        x.goBack(0);
        due.is("goBack(1): the snapshot is newer than the other", 2, x.goBack(1));
    }

    private static void promise14TheSavedStatesStay() {
        TreeKayles x = new TreeKayles();
        x.keep(0);
        x.node(TreeKayles.NONE);
        x.node(TreeKayles.NONE);
        x.goBack(0);
        due.is("count(11)", 3, x.count(11));
        due.is("undo()", 2, x.undo());
        due.is("count(0)", 2, x.count(0));
        due.is("undo()", 1, x.undo());
        due.is("count(0)", 1, x.count(0));
    }

    private static void promise14ChangesNothing() {
        TreeKayles x = Due.forest(".a");
        x.keep(0);
        due.is("goBack(0)", 2, x.goBack(0));
        due.is("it is saved", 2, x.count(11));
        due.is("undo()", 1, x.undo());
        due.is("count(0)", 2, x.count(0));
    }

    private static void promise14IsUndoable() {
        TreeKayles x = Due.forest("..");
        x.keep(0);
        x.take(1);
        x.goBack(0);
        due.is("count(11)", 3, x.count(11));
        due.is("undo()", 2, x.undo());
        due.is("count(1)", 1, x.count(1));
        due.is("count(8)", 1, x.count(8));
    }

    // ---- undo

    private static void promise15NoSavedState() {
        TreeKayles x = new TreeKayles();
        due.failsState("undo()", x, x::undo);
    }

    private static void promise15NoSavedStateAnyMore() {
        TreeKayles x = grown(1);
        due.is("undo()", 0, x.undo());
        due.failsState("undo()", x, x::undo);
        due.is("count(0)", 0, x.count(0));
    }

    private static void promise15SixSavedStates() {
        TreeKayles x = grown(6);
        due.is("count(11)", 6, x.count(11));
        for (int left = 5; left >= 0; left--) {
            due.is("undo()", left, x.undo());
            due.is("count(0)", left, x.count(0));
        }
        due.failsState("undo()", x, x::undo);
    }

    private static void promise15TheSeventhDropsTheOldest() {
        TreeKayles x = grown(7);
        due.is("count(11)", 6, x.count(11));
        for (int left = 5; left >= 0; left--) {
            due.is("undo()", left, x.undo());
            due.is("count(0)", left + 1, x.count(0));
        }
        due.failsState("undo()", x, x::undo);
        due.is("count(0)", 1, x.count(0));
    }

    /** Two times around all rows of saved states. */
    private static void promise15TheFourteenthDropsTheEighth() {
        TreeKayles x = grown(14);
        due.is("count(11)", 6, x.count(11));
        for (int left = 5; left >= 0; left--) {
            due.is("undo()", left, x.undo());
            due.is("count(0)", left + 8, x.count(0));
        }
        due.failsState("undo()", x, x::undo);
    }

    private static void promise15SavedAgainBehindUndo() {
        TreeKayles x = grown(7);
        x.undo();
        x.undo();
        x.again();
        due.is("count(11)", 5, x.count(11));
        x.again();
        due.is("count(11)", 6, x.count(11));
        x.again();
        due.is("count(11)", 6, x.count(11));
        int[] nodes = {5, 5, 5, 4, 3, 2};
        for (int step = 0; step < 6; step++) {
            due.is("undo()", 5 - step, x.undo());
            due.is("count(0)", nodes[step], x.count(0));
        }
        due.failsState("undo()", x, x::undo);
    }

    private static void promise15IsNotUndoable() {
        TreeKayles x = grown(2);
        x.undo();
        due.is("count(11)", 1, x.count(11));
        due.is("undo()", 0, x.undo());
        due.is("count(0)", 0, x.count(0));
    }

    private static void promise15ThePlayerAndTheMoves() {
        TreeKayles x = Due.forest("..");
        x.take(0);
        x.undo();
        due.is("count(8)", 0, x.count(8));
        due.is("count(9)", 0, x.count(9));
    }

    private static void promise15EdgesOfTakenNodes() {
        TreeKayles x = Due.forest(".ab");
        x.take(1);
        x.load();
        x.undo();
        due.is("count(1)", 0, x.count(1));
        due.is("again()", 3, x.again());
        due.is("count(2)", 2, x.count(2));
    }

    private static void promise15NoEdgesOfANodeThatIsGone() {
        TreeKayles x = Due.forest("..");
        x.node(1);
        x.undo();
        due.is("node(NONE)", 2, x.node(TreeKayles.NONE));
        due.is("count(2)", 0, x.count(2));
    }

    private static void promise15TheBufferStays() {
        TreeKayles x = grown(1);
        Due.type(x, "ab");
        x.undo();
        due.is("clearBuffer()", 2, x.clearBuffer());
    }

    private static void promise15TheSlotsStay() {
        TreeKayles x = grown(1);
        x.keep(1);
        x.undo();
        due.is("goBack(1)", 1, x.goBack(1));
        due.failsState("goBack(0)", x, () -> x.goBack(0));
    }

    private static void promise15ASlotWrittenSinceThenStays() {
        TreeKayles x = grown(1);
        x.keep(0);
        x.node(TreeKayles.NONE);
        x.keep(0);
        x.undo();
        due.is("count(0)", 1, x.count(0));
        due.is("goBack(0)", 2, x.goBack(0));
    }

    // ---- what is undoable

    private static void termsEachUndoableCallSavesOneState() {
        TreeKayles x = new TreeKayles();
        x.node(TreeKayles.NONE);
        x.node(TreeKayles.NONE);
        due.is("node()", 2, x.count(11));
        x.join(0, 1);
        due.is("join()", 3, x.count(11));
        x.cut(0, 1);
        due.is("cut()", 4, x.count(11));
        x.take(0);
        due.is("take()", 5, x.count(11));
        x.reply();
        due.is("reply()", 6, x.count(11));
        int[] there = {1, 2, 2, 2, 1, 0};
        int[] edges = {0, 0, 1, 0, 0, 0};
        for (int step = 0; step < 6; step++) {
            due.is("undo()", 5 - step, x.undo());
            due.is("count(1)", there[step], x.count(1));
            due.is("count(2)", edges[step], x.count(2));
        }
    }

    private static void termsAgainLoadAndGoBackSaveOneStateEach() {
        TreeKayles x = new TreeKayles();
        x.keep(0);
        x.again();
        due.is("again()", 1, x.count(11));
        x.load();
        due.is("load()", 2, x.count(11));
        x.goBack(0);
        due.is("goBack()", 3, x.count(11));
    }

    private static void termsOtherCallsSaveNothing() {
        TreeKayles x = Due.forest(".a");
        x.append('.');
        x.firstError();
        x.write();
        x.clearBuffer();
        x.keep(0);
        x.best();
        x.ifJoined(0, 1);
        x.value(3);
        x.length(true);
        x.mirror(0);
        due.is("count(11)", 1, x.count(11));
        due.is("undo()", 0, x.undo());
        due.is("count(0)", 0, x.count(0));
    }

    private static void termsAgainThatChangesNothingIsSaved() {
        TreeKayles x = Due.forest(".");
        due.is("again()", 0, x.again());
        due.is("count(11)", 2, x.count(11));
        due.is("undo()", 1, x.undo());
        due.is("count(0)", 1, x.count(0));
        due.is("undo()", 0, x.undo());
        due.is("count(0)", 0, x.count(0));
    }

    private static void termsGoBackThatChangesNothingIsSaved() {
        TreeKayles x = Due.forest(".");
        x.keep(1);
        x.goBack(1);
        due.is("count(11)", 2, x.count(11));
        due.is("undo()", 1, x.undo());
        due.is("count(0)", 1, x.count(0));
    }

    private static void termsLoadOfTheSameForestIsSaved() {
        TreeKayles x = Due.forest(".a");
        x.write();
        due.is("load()", 2, x.load());
        due.is("count(11)", 2, x.count(11));
        due.is("undo()", 1, x.undo());
        due.is("count(2)", 1, x.count(2));
    }

    private static void termsCallsThatChangeNothingDropTheOldest() {
        TreeKayles x = grown(1);
        for (int time = 0; time < 6; time++) {
            x.again();
        }
        due.is("count(11)", 6, x.count(11));
        for (int left = 5; left >= 0; left--) {
            due.is("undo()", left, x.undo());
            due.is("count(0)", 1, x.count(0));
        }
        due.failsState("undo()", x, x::undo);
    }

    private static void termsCallsThatThrowSaveNothing() {
        TreeKayles x = grown(6);
        due.failsIndex("node(9)", x, () -> x.node(9));
        due.failsState("join(0, 0)", x, () -> x.join(0, 0));
        due.failsState("cut(0, 1)", x, () -> x.cut(0, 1));
        due.failsIndex("take(6)", x, () -> x.take(6));
        due.failsState("goBack(0)", x, () -> x.goBack(0));
        x.append('!');
        due.failsArgument("load()", x, x::load);
        for (int left = 5; left >= 0; left--) {
            due.is("undo()", left, x.undo());
            due.is("count(0)", left, x.count(0));
        }
    }

    // ---- what the calls leave alone

    /** All calls that change the forest, but load(); it has two nodes without an edge, and a snapshot in slot 0. */
    private static void callAllOthers(TreeKayles x) {
        x.node(TreeKayles.NONE);
        x.node(0);
        x.join(0, 1);
        x.cut(0, 1);
        x.take(0);
        x.reply();
        x.again();
        x.goBack(0);
        x.undo();
    }

    private static void termsTheBufferStaysBehindAllOtherCalls() {
        TreeKayles x = Due.forest("..");
        x.keep(0);
        Due.type(x, "!~");
        callAllOthers(x);
        x.keep(1);
        due.is("digest()", Looks.digest(x, 1, 1, "!~"), x.digest());
        due.is("clearBuffer()", 2, x.clearBuffer());
    }

    private static void termsTheSlotsStayBehindAllOtherCalls() {
        TreeKayles x = Due.forest(".a");
        x.keep(0);
        x.take(0);
        x.keep(1);
        x.again();
        x.cut(0, 1);
        callAllOthers(x);
        Due.type(x, "..");
        x.load();
        x.write();
        x.clearBuffer();
        due.is("goBack(1)", 0, x.goBack(1));
        due.is("count(9)", 1, x.count(9));
        due.is("again()", 2, x.again());
        due.is("count(2)", 1, x.count(2));
        due.is("goBack(0)", 2, x.goBack(0));
        due.is("count(9)", 0, x.count(9));
        due.is("count(2)", 1, x.count(2));
    }

    private static void termsTheEmptySlotStaysEmptyBehindAllOtherCalls() {
        TreeKayles x = Due.forest("..");
        x.keep(0);
        callAllOthers(x);
        due.failsState("goBack(1)", x, () -> x.goBack(1));
    }

    private static void termsTheForestStaysBehindCallsOfTheBufferAndTheSlots() {
        TreeKayles x = Due.forest(".ab.");
        x.take(0);
        long before = x.digest();
        x.append('!');
        x.firstError();
        x.clearBuffer();
        x.write();
        x.clearBuffer();
        due.is("digest()", before, x.digest());
        x.keep(0);
        x.keep(1);
        due.is("digest() with two snapshots", Looks.digest(x, 1, 1, ""), x.digest());
        due.is("count(1)", 2, x.count(1));
        due.is("count(9)", 1, x.count(9));
    }
}
