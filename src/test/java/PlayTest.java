import java.util.ArrayList;
import java.util.List;

/**
 * All games on small forests, played to their ends by take() and undo(): who can not move has lost, or in the misere
 * game has won. Nothing is known here of values; what the looks tell must be what the played games come to.
 */
public final class PlayTest {
    private static final int MOST_NODES = 6;

    private static final Due due = new Due();

    /** What the player on the move can reach, and how many moves the games have. */
    private record Outcome(boolean isWon, boolean isMisereWon, int shortest, int longest) {
    }

    public static void main(String[] args) throws IllegalAccessException {
        due.runEach(PlayTest.class);
        due.end("PlayTest");
    }

    private static void termsGamesOnAllSmallForests() {
        for (String text : texts()) {
            play(Due.forest(text), text, 0);
        }
    }

    private static void termsGamesWithEdgesThatNoTextTells() {
        TreeKayles x = Due.forest("......");
        x.join(0, 5);
        x.join(5, 1);
        x.join(4, 1);
        x.join(4, 2);
        play(x, "0-5-1-4-2 3", 0);
    }

    private static void promise06ReplyWinsAgainstEachPlay() {
        for (String text : texts()) {
            TreeKayles x = Due.forest(text);
            if (x.count(5) != 0) {
                due.is(text + ": reply() takes the last node", 1, replyWins(x) ? 1 : 0);
            }
        }
    }

    private static void termsTheValueOfEachSetOfSmallForests() {
        for (String text : texts()) {
            valuesOfAllSets(Due.forest(text), text);
        }
    }

    private static void termsTheValueOfEachSetOfGreatTrees() {
        for (String text : List.of(Due.path(14), Due.star(13), ".aabbccddeeffg", ".aaabccdefghij", ".a.c.e.g.i.k.m")) {
            valuesOfAllSets(Due.forest(text), text);
        }
    }

    /** All texts of at most six nodes: each node has no edge, or one to each of the lesser nodes. */
    private static List<String> texts() {
        List<String> texts = new ArrayList<>(List.of(""));
        for (int done = 0; done < texts.size(); done++) {
            String text = texts.get(done);
            if (text.length() < MOST_NODES) {
                for (int letter = -1; letter < text.length(); letter++) {
                    texts.add(text + (letter < 0 ? '.' : (char) ('a' + letter)));
                }
            }
        }
        return texts;
    }

    private static Outcome play(TreeKayles x, String told, int moves) {
        boolean isWon = false;
        boolean isMisereWon = x.count(1) == 0;
        int shortest = x.count(1) == 0 ? 0 : 99;
        int longest = 0;
        int winning = 0;
        int lowest = -1;
        for (int node = x.count(0) - 1; node >= 0; node--) {
            if (x.nodeOf(node, 0) == 1) {
                Outcome left = playOne(x, told, node, moves);
                winning += left.isWon ? 0 : 1;
                lowest = left.isWon ? lowest : node;
                isWon |= !left.isWon;
                isMisereWon |= !left.isMisereWon;
                shortest = Math.min(shortest, 1 + left.shortest);
                longest = Math.max(longest, 1 + left.longest);
            }
        }
        Outcome outcome = new Outcome(isWon, isMisereWon, shortest, longest);
        isTold(x, told, outcome, moves);
        due.is(told + ": count(10)", winning, x.count(10));
        due.is(told + ": best()", lowest, x.best());
        due.isShare(told + ": openingShare()", winning == 0 ? 0.0 : (double) winning / x.count(1), x.openingShare());
        return outcome;
    }

    private static Outcome playOne(TreeKayles x, String told, int node, int moves) {
        int before = x.count(1);
        int neighbours = Integer.bitCount(x.nodeOf(node, 1));
        int value = x.nodeOf(node, 3);
        String then = told + " " + node;
        due.is(then + ": take()", 1 + neighbours, x.take(node));
        due.is(then + ": nodes that are left", before - 1 - neighbours, x.count(1));
        due.is(then + ": the value that is left", value, x.count(5));
        Outcome left = play(x, then, moves + 1);
        x.undo();
        due.is(then + ": nodeOf() 4", left.isWon ? 0 : 1, x.nodeOf(node, 4));
        due.is(then + ": nodeOf() 5", left.isMisereWon ? 0 : 1, x.nodeOf(node, 5));
        return left;
    }

    private static void isTold(TreeKayles x, String told, Outcome outcome, int moves) {
        due.is(told + ": can win if the value is not 0", outcome.isWon ? 1 : 0, x.count(5) != 0 ? 1 : 0);
        due.is(told + ": the sum of trees is the value", x.count(5), x.count(6));
        due.is(told + ": count(7)", outcome.isMisereWon ? 1 : 0, x.count(7));
        due.is(told + ": count(8)", moves % 2, x.count(8));
        due.is(told + ": count(9)", moves, x.count(9));
        due.is(told + ": length(true)", outcome.shortest, x.length(true));
        due.is(told + ": length(false)", outcome.longest, x.length(false));
    }

    /** Whether the player on the move, who always calls reply(), takes the last node, whatever the other one does. */
    private static boolean replyWins(TreeKayles x) {
        x.reply();
        boolean isWon = true;
        for (int node = 0; node < x.count(0); node++) {
            if (x.nodeOf(node, 0) == 1) {
                x.take(node);
                isWon &= x.count(1) > 0 && replyWins(x);
                x.undo();
            }
        }
        x.undo();
        return isWon;
    }

    /** The least number, from 0 up, that is none of the values of what can be left by one move. */
    private static void valuesOfAllSets(TreeKayles x, String told) {
        for (int set = 0; set < 1 << x.count(0); set++) {
            int reached = 0;
            for (int node = 0; node < x.count(0); node++) {
                if ((set >> node & 1) == 1) {
                    reached |= 1 << x.value(set & ~(1 << node) & ~x.nodeOf(node, 1));
                }
            }
            due.is(told + ": value(" + set + ")", Integer.numberOfTrailingZeros(~reached), x.value(set));
        }
    }
}
