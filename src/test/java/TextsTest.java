/** Promises 8 to 15: append, clearBuffer, firstError, load, write, keep, goBack, undo. */
public final class TextsTest {
    private static final Due due = new Due();

    public static void main(String[] args) {
        promise08Append();
        promise09ClearBuffer();
        promise10FirstError();
        promise11Load();
        promise11LoadFails();
        promise12Write();
        promise12WriteWhatCanNotBeToldSo();
        promise13Keep();
        promise14GoBack();
        promise14GoBackFails();
        promise15Undo();
        promise15UndoKeepsSix();
        promise15UndoLeavesBufferAndSlots();
        due.end("TextsTest");
    }

    private static void promise08Append() {
        TreeKayles x = new TreeKayles();
        due.is("append(33)", 1, x.append(33));
        due.is("append(126)", 2, x.append(126));
        due.failsArgument("append(32)", x, () -> x.append(32));
        due.failsArgument("append(127)", x, () -> x.append(127));
        due.failsArgument("append(-1)", x, () -> x.append(-1));
        due.failsArgument("append(65536 + 46)", x, () -> x.append(65536 + 46));
        for (int length = 3; length <= 14; length++) {
            due.is("append(46)", length, x.append(46));
        }
        due.failsState("append(46) to 14 characters", x, () -> x.append(46));
        due.failsArgument("append(32) to 14 characters", x, () -> x.append(32));
        due.is("append() is not undoable", 0, x.count(11));
    }

    private static void promise09ClearBuffer() {
        TreeKayles x = Due.forest(".a");
        due.is("clearBuffer() behind load()", 0, x.clearBuffer());
        Due.type(x, "abc");
        due.is("clearBuffer()", 3, x.clearBuffer());
        due.is("clearBuffer() again", 0, x.clearBuffer());
        due.is("append(46) to the cleared buffer", 1, x.append(46));
        due.is("the forest stays", 2, x.count(0));
        due.is("clearBuffer() is not undoable", 1, x.count(11));
    }

    private static void promise10FirstError() {
        due.is("an empty buffer", 0, firstError(""));
        due.is(".", 1, firstError("."));
        due.is("a", 0, firstError("a"));
        due.is(".b, not lesser", 1, firstError(".b"));
        due.is(".a", 2, firstError(".a"));
        due.is("..bcd", 5, firstError("..bcd"));
        due.is("..d.", 2, firstError("..d."));
        due.is(".a`", 2, firstError(".a`"));
        due.is(".A", 1, firstError(".A"));
        due.is(".a/", 2, firstError(".a/"));
        due.is(".a~~", 2, firstError(".a~~"));
        due.is("two errors", 1, firstError(".zz"));
        due.is("14 characters", 14, firstError(".abcdefghijklm"));
        due.is("the last one names itself", 13, firstError(".abcdefghijkln"));
    }

    private static int firstError(String text) {
        TreeKayles x = new TreeKayles();
        Due.type(x, text);
        int answer = x.firstError();
        due.is("the buffer stays behind firstError()", text.length(), x.clearBuffer());
        return answer;
    }

    private static void promise11Load() {
        TreeKayles x = new TreeKayles();
        x.node(-1);
        x.node(0);
        x.take(0);
        Due.type(x, "..aa");
        due.is("load()", 4, x.load());
        due.is("nodes", 4, x.count(0));
        due.is("none of it taken", 4, x.count(1));
        due.is("neighbours of 0", 0b1100, x.nodeOf(0, 1));
        due.is("neighbours of 1: no edges of old", 0, x.nodeOf(1, 1));
        due.is("the player", 0, x.count(8));
        due.is("the moves", 0, x.count(9));
        due.is("saved", 4, x.count(11));
        due.is("the buffer is clear", 0, x.clearBuffer());
        due.is("load() of the empty buffer", 0, x.load());
        due.is("no nodes", 0, x.count(0));
        due.is("none is there", 0, x.count(1));
        due.is("undo()", 4, x.undo());
        due.is("nodes after undo()", 4, x.count(0));
        due.is("undo()", 3, x.undo());
        due.is("nodes after undo()", 2, x.count(0));
        due.is("taken as before", 0, x.count(1));
        due.is("the moves are back", 1, x.count(9));
    }

    private static void promise11LoadFails() {
        TreeKayles x = Due.forest(".a");
        Due.type(x, ".ac");
        due.failsArgument("load() of .ac", x, x::load);
        due.is("the forest stays", 2, x.count(0));
        due.is("the buffer stays", 3, x.clearBuffer());
        Due.type(x, "!");
        due.failsArgument("load() of !", x, x::load);
    }

    private static void promise12Write() {
        String[] texts = {"", ".", "....", ".abc", ".aabbc", "..ab.e", Due.path(14), Due.star(13)};
        for (String text : texts) {
            TreeKayles x = Due.forest(text);
            TreeKayles typed = Due.forest(text);
            Due.type(typed, text);
            Due.type(x, "zz");
            due.is("write() of " + text, text.length(), x.write());
            due.is("the buffer is " + text, typed.digest(), x.digest());
        }
        TreeKayles y = Due.forest(".ab");
        y.take(1);
        due.is("write(), as none of it was taken", 3, y.write());
        due.is("it is still taken", 0, y.count(1));
        due.is("write() is not undoable", 2, y.count(11));
        due.is("load()", 3, y.load());
        due.is("with its edges", 2, y.count(2));
    }

    private static void promise12WriteWhatCanNotBeToldSo() {
        TreeKayles x = Due.forest("...");
        x.join(2, 0);
        due.is("write()", 3, x.write());
        x.join(2, 1);
        due.is("write(): 2 has two lesser nodes", -1, x.write());
        due.is("the buffer stays", 3, x.firstError());
        due.is("its last one is a", 3, x.load());
        due.is("neighbours of 0", 0b100, x.nodeOf(0, 1));
        due.is("neighbours of 1", 0, x.nodeOf(1, 1));
        TreeKayles y = Due.forest("....");
        y.join(2, 0);
        y.join(2, 1);
        y.take(0);
        due.is("taken nodes count, too", -1, y.write());
    }

    private static void promise13Keep() {
        TreeKayles x = Due.forest(".ab.");
        due.is("keep(0)", 4, x.keep(0));
        x.take(0);
        due.is("keep(1): nodes that are there", 2, x.keep(1));
        due.is("keep() is not undoable", 2, x.count(11));
        x.goBack(0);
        due.is("slot 0", 4, x.count(1));
        x.goBack(1);
        due.is("slot 1", 2, x.count(1));
        x.take(3);
        due.is("keep(0), in place of the one before", 1, x.keep(0));
        x.again();
        due.is("goBack(0)", 1, x.goBack(0));
        due.failsArgument("keep(-1)", x, () -> x.keep(-1));
        due.failsArgument("keep(2)", x, () -> x.keep(2));
        due.is("keep(0) without nodes", 0, new TreeKayles().keep(0));
    }

    private static void promise14GoBack() {
        TreeKayles x = Due.forest(".a.c");
        x.take(2);
        x.keep(1);
        x.node(-1);
        x.join(0, 4);
        x.cut(0, 1);
        x.take(0);
        due.is("goBack(1)", 2, x.goBack(1));
        due.is("nodes", 4, x.count(0));
        due.is("neighbours of 0", 0b10, x.nodeOf(0, 1));
        due.is("the player", 1, x.count(8));
        due.is("the moves", 1, x.count(9));
        due.is("saved", 6, x.count(11));
        x.take(0);
        due.is("goBack(1): the snapshot stays", 2, x.goBack(1));
        due.is("undo()", 5, x.undo());
        due.is("nothing is there", 0, x.count(1));
        due.is("the moves before", 2, x.count(9));
        Due.type(x, "xy");
        x.goBack(1);
        due.is("the buffer is not in a snapshot", 2, x.clearBuffer());
        due.is("node(NONE) behind goBack()", 4, x.node(-1));
        due.is("has no edges of old", 0, x.nodeOf(4, 1));
    }

    private static void promise14GoBackFails() {
        TreeKayles x = Due.forest(".");
        due.failsArgument("goBack(-1)", x, () -> x.goBack(-1));
        due.failsArgument("goBack(2)", x, () -> x.goBack(2));
        due.failsState("goBack(0)", x, () -> x.goBack(0));
        x.keep(0);
        due.failsState("goBack(1)", x, () -> x.goBack(1));
        due.is("goBack(0)", 1, x.goBack(0));
    }

    private static void promise15Undo() {
        TreeKayles x = new TreeKayles();
        due.failsState("undo()", x, x::undo);
        long empty = x.digest();
        x.node(-1);
        x.node(0);
        due.is("undo()", 1, x.undo());
        due.is("nodes", 1, x.count(0));
        due.is("undo()", 0, x.undo());
        due.is("as new", empty, x.digest());
        due.failsState("undo()", x, x::undo);
        x.node(-1);
        x.take(0);
        x.undo();
        due.is("the moves are restored, too", 0, x.count(9));
        due.is("node(0), as before", 1, x.node(0));
        due.is("undo() drops the latest", 1, x.undo());
    }

    private static void promise15UndoKeepsSix() {
        TreeKayles x = new TreeKayles();
        for (int node = 0; node < 9; node++) {
            x.node(-1);
            due.is("saved after " + (node + 1), Math.min(6, node + 1), x.count(11));
        }
        for (int left = 5; left >= 0; left--) {
            due.is("undo()", left, x.undo());
            due.is("nodes", left + 3, x.count(0));
        }
        due.failsState("undo(): the oldest ones were dropped", x, x::undo);
        due.is("node(NONE)", 3, x.node(-1));
        due.is("saved", 1, x.count(11));
    }

    private static void promise15UndoLeavesBufferAndSlots() {
        TreeKayles x = Due.forest("..");
        Due.type(x, "ab");
        x.keep(0);
        x.take(0);
        x.keep(1);
        x.append('c');
        due.is("undo()", 1, x.undo());
        due.is("slot 1 stays", 1, x.goBack(1));
        due.is("slot 0 stays", 2, x.goBack(0));
        due.is("the buffer stays", 3, x.clearBuffer());
    }
}
