/** Boundary cases of promises 8 to 12, and of the term "Input text": one test for each. */
public final class BoundsOfTextsTest {
    private static final Due due = new Due();

    public static void main(String[] args) throws IllegalAccessException {
        due.runEach(BoundsOfTextsTest.class);
        due.end("BoundsOfTextsTest");
    }

    /** A new object without nodes whose buffer holds the text. */
    private static TreeKayles typed(String text) {
        TreeKayles x = new TreeKayles();
        Due.type(x, text);
        return x;
    }

    /** The buffer must hold this text: the digest is that of the other object, which is alike, with the text typed. */
    private static void bufferIs(String text, TreeKayles x, TreeKayles like) {
        Due.type(like, text);
        due.is("digest() with " + text + " in the buffer", like.digest(), x.digest());
    }

    // ---- append

    private static void promise08Code32() {
        TreeKayles x = new TreeKayles();
        due.failsArgument("append(32)", x, () -> x.append(32));
        due.is("clearBuffer()", 0, x.clearBuffer());
    }

    private static void promise08Code33() {
        due.is("append(33)", 1, new TreeKayles().append(33));
    }

    private static void promise08Code126() {
        due.is("append(126)", 1, new TreeKayles().append(126));
    }

    private static void promise08Code127() {
        TreeKayles x = new TreeKayles();
        due.failsArgument("append(127)", x, () -> x.append(127));
        due.is("clearBuffer()", 0, x.clearBuffer());
    }

    private static void promise08CodesFarAway() {
        TreeKayles x = new TreeKayles();
        due.failsArgument("append(0)", x, () -> x.append(0));
        due.failsArgument("append(-1)", x, () -> x.append(-1));
        due.failsArgument("append(least)", x, () -> x.append(Integer.MIN_VALUE));
        due.failsArgument("append(greatest)", x, () -> x.append(Integer.MAX_VALUE));
    }

    /** As a char or a byte these would be 46. */
    private static void promise08CodesThatWrapAround() {
        TreeKayles x = new TreeKayles();
        due.failsArgument("append(46 + 65536)", x, () -> x.append(46 + 65536));
        due.failsArgument("append(46 + 256)", x, () -> x.append(46 + 256));
        due.failsArgument("append(46 - 65536)", x, () -> x.append(46 - 65536));
    }

    private static void promise08EveryCodeIsKept() {
        for (int code = 33; code <= 126; code++) {
            TreeKayles x = new TreeKayles();
            long before = x.digest();
            x.append(code);
            due.is("digest() with the code " + code, 31 * (before + 1) + code, x.digest());
        }
    }

    private static void promise08TheFourteenthCharacter() {
        TreeKayles x = typed(".............");
        due.is("append(46)", 14, x.append(46));
    }

    private static void promise08TheFifteenthCharacter() {
        TreeKayles x = typed("..............");
        due.failsState("append(46)", x, () -> x.append(46));
        due.is("clearBuffer()", 14, x.clearBuffer());
    }

    private static void promise08AWrongCodeToAFullBuffer() {
        TreeKayles x = typed("..............");
        due.failsArgument("append(32)", x, () -> x.append(32));
        due.failsArgument("append(127)", x, () -> x.append(127));
    }

    private static void promise08AFullBufferThatWasCleared() {
        TreeKayles x = typed("..............");
        x.clearBuffer();
        due.is("append(46)", 1, x.append(46));
    }

    private static void promise08AFullBufferThatWasLoaded() {
        TreeKayles x = typed("..............");
        x.load();
        due.is("append(46)", 1, x.append(46));
    }

    private static void promise08ABufferThatWriteFilled() {
        TreeKayles x = Due.forest(Due.path(14));
        x.write();
        due.failsState("append(46)", x, () -> x.append(46));
    }

    private static void promise08BehindAWrittenText() {
        TreeKayles x = Due.forest(".a");
        x.write();
        due.is("append(46)", 3, x.append(46));
        bufferIs(".a.", x, Due.forest(".a"));
    }

    private static void promise08IsNotUndoable() {
        TreeKayles x = new TreeKayles();
        x.append(46);
        due.is("count(11)", 0, x.count(11));
        due.is("count(0)", 0, x.count(0));
    }

    // ---- clearBuffer

    private static void promise09TheEmptyBuffer() {
        due.is("clearBuffer()", 0, new TreeKayles().clearBuffer());
    }

    private static void promise09OneCharacter() {
        TreeKayles x = typed("!");
        due.is("clearBuffer()", 1, x.clearBuffer());
        due.is("clearBuffer() again", 0, x.clearBuffer());
    }

    private static void promise09TheFullBuffer() {
        TreeKayles x = typed("..............");
        due.is("clearBuffer()", 14, x.clearBuffer());
        due.is("firstError()", 0, x.firstError());
    }

    private static void promise09OldCharactersStayAway() {
        TreeKayles x = typed("..zz");
        x.clearBuffer();
        Due.type(x, "..");
        due.is("firstError()", 2, x.firstError());
        due.is("load()", 2, x.load());
    }

    private static void promise09IsNotUndoable() {
        TreeKayles x = Due.forest("..");
        x.append('.');
        x.clearBuffer();
        due.is("count(11)", 1, x.count(11));
        due.is("count(0)", 2, x.count(0));
        x.undo();
        due.is("undo() does not bring the buffer back", 0, x.clearBuffer());
    }

    // ---- firstError

    private static void promise10TheEmptyBuffer() {
        due.is("firstError()", 0, new TreeKayles().firstError());
    }

    private static void promise10OneRightCharacter() {
        due.is("firstError()", 1, typed(".").firstError());
    }

    private static void promise10FourteenRightCharacters() {
        due.is("a way", 14, typed(Due.path(14)).firstError());
        due.is("a star", 14, typed(Due.star(13)).firstError());
        due.is("lone nodes", 14, typed(Due.lone(14)).firstError());
    }

    private static void promise10TheFirstIsWrong() {
        due.is("a letter", 0, typed("a").firstError());
        due.is("a letter ahead of right ones", 0, typed("a.").firstError());
        due.is("another sign", 0, typed("!.a").firstError());
    }

    private static void promise10TheLastIsWrong() {
        due.is("of two", 1, typed(".b").firstError());
        due.is("of 14: its own letter", 13, typed(".............n").firstError());
        due.is("of 14: another sign", 13, typed(".............~").firstError());
    }

    private static void promise10TheLastIsRight() {
        due.is("of 14: the greatest lesser node", 14, typed(".............m").firstError());
        due.is("of 14: the node 0", 14, typed(".............a").firstError());
    }

    private static void promise10TheNodesOwnLetter() {
        for (int place = 0; place < 14; place++) {
            String text = "..............".substring(0, place) + (char) ('a' + place);
            due.is("firstError() of " + text, place, typed(text).firstError());
        }
    }

    private static void promise10TheLetterOfTheNodeBefore() {
        for (int place = 1; place < 14; place++) {
            String text = "..............".substring(0, place) + (char) ('a' + place - 1);
            due.is("firstError() of " + text, place + 1, typed(text).firstError());
        }
    }

    private static void promise10TheLetterOfAGreaterNode() {
        due.is("the next node", 1, typed(".c.").firstError());
        due.is("the last node", 1, typed(".n............").firstError());
        due.is("no node at all", 1, typed(".z").firstError());
    }

    /** The codes just beside those of "." and of the letters, and the ends of what the buffer takes. */
    private static void promise10CodesBesideTheRightOnes() {
        int[] codes = {33, 45, 47, 48, 64, 65, 90, 96, 111, 122, 123, 126};
        for (int code : codes) {
            TreeKayles x = typed(".............");
            x.append(code);
            due.is("firstError() with the code " + code, 13, x.firstError());
        }
    }

    private static void promise10CapitalLetters() {
        due.is("firstError()", 1, typed(".A").firstError());
    }

    private static void promise10TheFirstOfTwoErrors() {
        due.is("firstError()", 2, typed("..z!a").firstError());
    }

    private static void promise10NothingIsChanged() {
        TreeKayles x = typed("..z");
        long before = x.digest();
        x.firstError();
        due.is("digest()", before, x.digest());
        due.is("clearBuffer()", 3, x.clearBuffer());
    }

    // ---- load

    private static void promise11TheEmptyBuffer() {
        TreeKayles x = Due.forest(".ab");
        due.is("load()", 0, x.load());
        due.is("count(0)", 0, x.count(0));
        due.is("count(1)", 0, x.count(1));
        due.is("node(NONE)", 0, x.node(TreeKayles.NONE));
    }

    private static void promise11TheEmptyBufferWithoutNodes() {
        TreeKayles x = new TreeKayles();
        due.is("load()", 0, x.load());
        due.is("count(11): undoable, though nothing is changed", 1, x.count(11));
    }

    private static void promise11OneCharacter() {
        TreeKayles x = typed(".");
        due.is("load()", 1, x.load());
        due.is("count(1)", 1, x.count(1));
    }

    private static void promise11FourteenCharacters() {
        TreeKayles x = typed(Due.path(14));
        due.is("load()", 14, x.load());
        due.is("count(2)", 13, x.count(2));
        due.is("count(3)", 1, x.count(3));
    }

    private static void promise11TheFirstIsWrong() {
        TreeKayles x = Due.forest("..");
        Due.type(x, "a..");
        due.failsArgument("load()", x, x::load);
        due.is("the forest stays", 2, x.count(0));
        due.is("the buffer stays", 3, x.clearBuffer());
    }

    private static void promise11TheLastIsWrong() {
        TreeKayles x = Due.forest("..");
        Due.type(x, ".............n");
        due.failsArgument("load()", x, x::load);
        due.is("the forest stays", 2, x.count(0));
        due.is("the buffer stays", 14, x.clearBuffer());
    }

    private static void promise11AfterAnErrorIsMended() {
        TreeKayles x = typed(".b");
        due.failsArgument("load()", x, x::load);
        x.clearBuffer();
        Due.type(x, ".a");
        due.is("load()", 2, x.load());
    }

    private static void promise11NothingIsTakenThen() {
        TreeKayles x = Due.forest("...");
        x.take(0);
        x.take(1);
        x.take(2);
        Due.type(x, "..");
        due.is("load()", 2, x.load());
        due.is("count(1)", 2, x.count(1));
    }

    private static void promise11PlayerZeroIsOnTheMove() {
        TreeKayles x = Due.forest("...");
        x.take(0);
        Due.type(x, "..");
        x.load();
        due.is("count(8)", 0, x.count(8));
        due.is("count(9)", 0, x.count(9));
    }

    private static void promise11OldEdgesAreGone() {
        TreeKayles x = Due.forest(Due.path(14));
        Due.type(x, "..............");
        x.load();
        due.is("count(2)", 0, x.count(2));
        due.is("join(0, 1)", 13, x.join(0, 1));
    }

    private static void promise11OldNodesAreGone() {
        TreeKayles x = Due.forest(Due.path(14));
        Due.type(x, ".");
        due.is("load()", 1, x.load());
        due.is("node(NONE)", 1, x.node(TreeKayles.NONE));
        due.is("neighbours of 1", 0, x.nodeOf(1, 1));
        due.is("neighbours of 0", 0, x.nodeOf(0, 1));
    }

    private static void promise11TheBufferIsClear() {
        TreeKayles x = typed(".a");
        x.load();
        due.is("clearBuffer()", 0, x.clearBuffer());
    }

    private static void promise11IsUndoable() {
        TreeKayles x = Due.forest(".ab");
        x.take(0);
        Due.type(x, "..");
        x.load();
        due.is("count(11)", 3, x.count(11));
        due.is("undo()", 2, x.undo());
        due.is("count(0)", 3, x.count(0));
        due.is("count(1)", 1, x.count(1));
        due.is("count(9)", 1, x.count(9));
        due.is("the buffer stays clear", 0, x.clearBuffer());
    }

    private static void promise11TheSlotsStay() {
        TreeKayles x = Due.forest(".ab");
        x.keep(1);
        Due.type(x, "..");
        x.load();
        due.is("goBack(1)", 3, x.goBack(1));
        due.failsState("goBack(0)", x, () -> x.goBack(0));
    }

    // ---- write

    private static void promise12WithoutNodes() {
        TreeKayles x = typed("ab");
        due.is("write()", 0, x.write());
        due.is("clearBuffer()", 0, x.clearBuffer());
    }

    private static void promise12OneNode() {
        TreeKayles x = Due.forest(".");
        due.is("write()", 1, x.write());
        bufferIs(".", x, Due.forest("."));
    }

    private static void promise12FourteenNodes() {
        TreeKayles x = Due.forest(Due.path(14));
        due.is("write()", 14, x.write());
        bufferIs(Due.path(14), x, Due.forest(Due.path(14)));
    }

    private static void promise12TheGreatestLetter() {
        TreeKayles x = Due.forest(".............m");
        due.is("write()", 14, x.write());
        bufferIs(".............m", x, Due.forest(".............m"));
    }

    private static void promise12InPlaceOfALongerText() {
        TreeKayles x = Due.forest("..");
        Due.type(x, "zzzzzzzzzzzzzz");
        due.is("write()", 2, x.write());
        bufferIs("..", x, Due.forest(".."));
    }

    private static void promise12InPlaceOfAShorterText() {
        TreeKayles x = Due.forest(".a.c");
        Due.type(x, "z");
        due.is("write()", 4, x.write());
        bufferIs(".a.c", x, Due.forest(".a.c"));
    }

    private static void promise12ManyGreaterNeighbours() {
        TreeKayles x = Due.forest(Due.star(13));
        due.is("write()", 14, x.write());
    }

    private static void promise12TwoLesserNeighbours() {
        TreeKayles x = Due.forest("...");
        x.join(0, 2);
        due.is("one: write()", 3, x.write());
        x.join(1, 2);
        due.is("two: write()", TreeKayles.NONE, x.write());
    }

    private static void promise12TwoLesserNeighboursOfTheLast() {
        TreeKayles x = Due.forest(Due.lone(14));
        x.join(0, 13);
        x.join(12, 13);
        due.is("write()", TreeKayles.NONE, x.write());
    }

    private static void promise12TheBufferStays() {
        TreeKayles x = Due.forest("...");
        x.join(0, 2);
        x.join(1, 2);
        Due.type(x, "z!......zzzzzz");
        long before = x.digest();
        due.is("write()", TreeKayles.NONE, x.write());
        due.is("digest()", before, x.digest());
        due.is("clearBuffer()", 14, x.clearBuffer());
    }

    private static void promise12TheEmptyBufferStays() {
        TreeKayles x = Due.forest("...");
        x.join(0, 2);
        x.join(1, 2);
        due.is("write()", TreeKayles.NONE, x.write());
        due.is("clearBuffer()", 0, x.clearBuffer());
    }

    private static void promise12ToldAgainWhenAnEdgeIsCut() {
        TreeKayles x = Due.forest("...");
        x.join(0, 2);
        x.join(1, 2);
        x.cut(0, 2);
        due.is("write()", 3, x.write());
        due.is("load()", 3, x.load());
        due.is("neighbours of 2", 0b010, x.nodeOf(2, 1));
    }

    private static void promise12EdgesOfTakenNodesAreWritten() {
        TreeKayles x = Due.forest(".ab");
        x.take(1);
        due.is("write()", 3, x.write());
        due.is("load()", 3, x.load());
        due.is("count(2)", 2, x.count(2));
    }

    private static void promise12LesserNeighboursThatWereTaken() {
        TreeKayles x = Due.forest("....");
        x.join(0, 2);
        x.join(1, 2);
        x.take(2);
        due.is("write()", TreeKayles.NONE, x.write());
    }

    private static void promise12TakenNodesStayTaken() {
        TreeKayles x = Due.forest(".ab");
        x.take(0);
        x.write();
        due.is("count(1)", 1, x.count(1));
        due.is("count(9)", 1, x.count(9));
    }

    private static void promise12IsNotUndoable() {
        TreeKayles x = Due.forest(".");
        x.write();
        due.is("count(11)", 1, x.count(11));
        x.undo();
        due.is("undo() leaves the buffer", 1, x.clearBuffer());
    }
}
