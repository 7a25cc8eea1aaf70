import java.util.Arrays;

/** Kayles on trees: forests whose nodes are taken with all their neighbours, by two players in turn. */
public final class TreeKayles {
    /** There is nothing to return. */
    public static final int NONE = -1;

    private static final int MOST_NODES = 14;
    private static final int MOST_CHARACTERS = 14;
    private static final int MOST_SAVED = 6;
    private static final int SLOTS = 2;
    private static final int LEAST_CODE = 33;
    private static final int GREATEST_CODE = 126;
    private static final int PROPERTIES = 6;
    private static final int NUMBERS = 12;
    private static final int HASH_START = 3221;
    private static final int HASHED_MIRRORS = 4;

    private final Forest forest = new Forest();
    private final Forest[] slots = new Forest[SLOTS];
    private final boolean[] isKept = new boolean[SLOTS];
    private final History history = new History();
    private final Text text = new Text();
    private final Shapes shapes = new Shapes();
    private final Outcomes outcomes = new Outcomes();
    private final Outcomes joinedOutcomes = new Outcomes();
    private final Graph joinedGraph = new Graph();

    /** Creates a forest without nodes, with empty slots and an empty buffer. */
    public TreeKayles() {
        for (int slot = 0; slot < SLOTS; slot++) {
            slots[slot] = new Forest();
        }
    }

    // ---- forests

    /** Adds a node, with an edge to another one or to NONE; returns its number. Undoable. */
    public int node(int to) throws IndexOutOfBoundsException, IllegalStateException {
        if (to != NONE) {
            requireNode(to);
        }
        if (forest.nodes >= MOST_NODES) {
            throw new IllegalStateException("there is no room for a further node");
        }
        if (to != NONE) {
            requireThere(to);
        }
        history.save(forest);
        forest.grow(to);
        return forest.nodes - 1;
    }

    /** Joins two nodes by an edge; returns how many trees there are then. Undoable. */
    public int join(int one, int other) throws IndexOutOfBoundsException, IllegalStateException {
        requireNode(one);
        requireNode(other);
        if (!forest.canBeJoined(one, other)) {
            throw new IllegalStateException("the nodes can not be joined");
        }
        history.save(forest);
        forest.graph.link(one, other);
        return forest.treeCount();
    }

    /** Cuts an edge; returns 1 if it was a mirror, otherwise 0. Undoable. */
    public int cut(int one, int other) throws IndexOutOfBoundsException, IllegalStateException {
        requireNode(one);
        requireNode(other);
        if (!forest.hasEdge(one, other)) {
            throw new IllegalStateException("there is no edge between the nodes");
        }
        int answer = isMirror(one, other) ? 1 : 0;
        history.save(forest);
        forest.graph.unlink(one, other);
        return answer;
    }

    // ---- the game

    /** The player on the move chooses a node; returns how many nodes are taken by it. Undoable. */
    public int take(int node) throws IndexOutOfBoundsException, IllegalStateException {
        requireNode(node);
        requireThere(node);
        history.save(forest);
        return forest.choose(node);
    }

    /** The player on the move chooses the best move, or else the lowest node; returns it. Undoable. */
    public int reply() throws IllegalStateException {
        if (forest.there == 0) {
            throw new IllegalStateException("no node is there");
        }
        int winning = lowestWinning();
        int chosen = winning == NONE ? Integer.numberOfTrailingZeros(forest.there) : winning;
        history.save(forest);
        forest.choose(chosen);
        return chosen;
    }

    /** Puts all taken nodes back, for a new game; returns how many were taken. Undoable. */
    public int again() {
        int taken = forest.nodes - Integer.bitCount(forest.there);
        history.save(forest);
        forest.startAgain();
        return taken;
    }

    // ---- texts, snapshots

    /** Appends a character to the buffer; returns the buffer's new length. */
    public int append(int code) throws IllegalArgumentException, IllegalStateException {
        if (code < LEAST_CODE || code > GREATEST_CODE) {
            throw new IllegalArgumentException("the character code is not 33 to 126");
        }
        if (text.size >= MOST_CHARACTERS) {
            throw new IllegalStateException("the buffer is full");
        }
        text.put(code);
        return text.size;
    }

    /** Clears the buffer; returns the length that it had. */
    public int clearBuffer() {
        int size = text.size;
        text.wipe();
        return size;
    }

    /** Returns the index of the buffer's first syntax error; its length if there is none. */
    public int firstError() {
        return text.firstWrong();
    }

    /** Puts the forest in the buffer in place of what was there; returns how many nodes it has. Undoable. */
    public int load() throws IllegalArgumentException {
        if (text.firstWrong() < text.size) {
            throw new IllegalArgumentException("the buffer has a syntax error");
        }
        history.save(forest);
        forest.wipe();
        for (int place = 0; place < text.size; place++) {
            forest.grow(text.lesserAt(place));
        }
        text.wipe();
        return forest.nodes;
    }

    /** Writes the forest into the buffer; returns the buffer's length, or NONE if it can not be told so. */
    public int write() {
        if (!forest.canBeWritten()) {
            return NONE;
        }
        text.wipe();
        for (int node = 0; node < forest.nodes; node++) {
            text.putLesser(forest.lesserNeighbour(node));
        }
        return text.size;
    }

    /** Takes a snapshot, in place of the one in the slot; returns how many nodes are there. */
    public int keep(int slot) throws IllegalArgumentException {
        requireSlot(slot);
        Forest kept = slots[slot];
        if (kept != null) {
            kept.copyFrom(forest);
            isKept[slot] = true;
        }
        return Integer.bitCount(forest.there);
    }

    /** Goes back to a snapshot, which stays; returns how many nodes are there then. Undoable. */
    public int goBack(int slot) throws IllegalArgumentException, IllegalStateException {
        requireSlot(slot);
        Forest kept = slots[slot];
        if (kept == null || !isKept[slot]) {
            throw new IllegalStateException("there is no snapshot in the slot");
        }
        history.save(forest);
        forest.copyFrom(kept);
        return Integer.bitCount(forest.there);
    }

    /** Restores the latest saved state, and drops it; returns how many are left. */
    public int undo() throws IllegalStateException {
        if (history.size == 0) {
            throw new IllegalStateException("there is no saved state");
        }
        history.restore(forest);
        return history.size;
    }

    // ---- looks; nothing is changed

    /** Returns a property of a node. */
    public int nodeOf(int node, int what) throws IndexOutOfBoundsException, IllegalArgumentException {
        requireNode(node);
        requireBelow(what, PROPERTIES);
        if (!forest.isThere(node)) {
            return what < 2 ? 0 : NONE;
        }
        switch (what) {
            case 0:
                return 1;
            case 1:
                return forest.graph.around(node) & forest.there;
            case 2:
                return forest.treeNumber(node);
            case 3:
                return outcomesNow().valueFor(forest.leftAfter(node));
            case 4:
                return isWinning(node) ? 1 : 0;
            default:
                return outcomesNow().isMisereWonFor(forest.leftAfter(node)) ? 0 : 1;
        }
    }

    /** Returns a property of a tree. */
    public int tree(int tree, int what) throws IndexOutOfBoundsException, IllegalArgumentException {
        int nodes = forest.treeAt(tree);
        if (nodes == 0) {
            throw new IndexOutOfBoundsException("there is no such tree");
        }
        requireBelow(what, PROPERTIES);
        switch (what) {
            case 0:
                return nodes;
            case 1:
                return Integer.bitCount(nodes);
            case 2:
                return outcomesNow().valueFor(nodes);
            case 3:
                return lowestAlike(tree);
            case 4:
                return mirrorsIn(nodes);
            default:
                return forest.graph.longestWay(nodes);
        }
    }

    /** Returns a number of the forest or of the game. */
    public int count(int what) throws IllegalArgumentException {
        requireBelow(what, NUMBERS);
        switch (what) {
            case 0:
                return forest.nodes;
            case 1:
                return Integer.bitCount(forest.there);
            case 2:
                return forest.graph.edgesIn(forest.there);
            case 3:
                return forest.treeCount();
            case 4:
                return classCount();
            case 5:
                return outcomesNow().valueFor(forest.there);
            case 6:
                return sumOfTrees();
            case 7:
                return outcomesNow().isMisereWonFor(forest.there) ? 1 : 0;
            case 8:
                return forest.moves & 1;
            case 9:
                return forest.moves;
            case 10:
                return winningCount();
            default:
                return history.size;
        }
    }

    /** Returns the lowest node by which the player on the move would win; NONE if there is none. */
    public int best() {
        return lowestWinning();
    }

    /** Returns how many moves are left in the shortest or in the longest game. */
    public int length(boolean isShortest) {
        return isShortest ? outcomesNow().shortestFor(forest.there) : outcomesNow().longestFor(forest.there);
    }

    /** Returns 100 times the lesser node and the greater node of a mirror; NONE if there are not so many. */
    public int mirror(int rank) throws IllegalArgumentException {
        if (rank < 0) {
            throw new IllegalArgumentException("the rank is below 0");
        }
        int passed = 0;
        for (int lesser = 0; lesser < forest.nodes; lesser++) {
            for (int greater = lesser + 1; greater < forest.nodes; greater++) {
                if (isMirror(lesser, greater)) {
                    if (passed == rank) {
                        return 100 * lesser + greater;
                    }
                    passed++;
                }
            }
        }
        return NONE;
    }

    /** Returns the value of the forest if both nodes were joined; NONE if they can not be. */
    public int ifJoined(int one, int other) throws IndexOutOfBoundsException {
        requireNode(one);
        requireNode(other);
        if (!forest.canBeJoined(one, other)) {
            return NONE;
        }
        joinedGraph.copyFrom(forest.graph);
        joinedGraph.link(one, other);
        joinedOutcomes.follow(joinedGraph);
        return joinedOutcomes.valueFor(forest.there);
    }

    /** Returns the value of some nodes that are there. */
    public int value(int mask) throws IllegalArgumentException {
        if ((mask & ~forest.there) != 0) {
            throw new IllegalArgumentException("the mask has others than nodes that are there");
        }
        return outcomesNow().valueFor(mask);
    }

    /** Returns which share of the nodes that are there would win; 0.0 if no node is there. */
    public double openingShare() {
        int openings = Integer.bitCount(forest.there);
        return openings == 0 ? 0.0 : (double) winningCount() / openings;
    }

    /** Returns a hash of the whole state. */
    public long digest() {
        long hash = HASH_START;
        for (int what = 0; what < NUMBERS; what++) {
            hash = 31 * hash + count(what);
        }
        for (int node = 0; node < forest.nodes; node++) {
            for (int what = 0; what < PROPERTIES; what++) {
                hash = 31 * hash + nodeOf(node, what);
            }
        }
        int trees = forest.treeCount();
        for (int tree = 0; tree < trees; tree++) {
            for (int what = 0; what < PROPERTIES; what++) {
                hash = 31 * hash + tree(tree, what);
            }
        }
        hash = 31 * hash + best();
        hash = 31 * hash + length(true);
        hash = 31 * hash + length(false);
        for (int rank = 0; rank < HASHED_MIRRORS; rank++) {
            hash = 31 * hash + mirror(rank);
        }
        if (forest.nodes > 0) {
            hash = 31 * hash + ifJoined(0, forest.nodes - 1);
        }
        hash = 31 * hash + bitsOfShare(openingShare());
        for (int slot = 0; slot < SLOTS; slot++) {
            hash = 31 * hash + (isKept[slot] ? 1 : 0);
        }
        hash = 31 * hash + text.size;
        for (int place = 0; place < text.size; place++) {
            hash = 31 * hash + text.codeAt(place);
        }
        return hash;
    }

    // ---- what the calls must be given

    private void requireNode(int node) {
        if (node < 0 || node >= forest.nodes) {
            throw new IndexOutOfBoundsException("there is no such node");
        }
    }

    private void requireThere(int node) {
        if (!forest.isThere(node)) {
            throw new IllegalStateException("the node was taken");
        }
    }

    private static void requireSlot(int slot) {
        if (slot < 0 || slot >= SLOTS) {
            throw new IllegalArgumentException("the slot is out of range");
        }
    }

    private static void requireBelow(int what, int bound) {
        if (what < 0 || what >= bound) {
            throw new IllegalArgumentException("there is nothing of this number to tell");
        }
    }

    // ---- what the looks are made of

    private Outcomes outcomesNow() {
        outcomes.follow(forest.graph);
        return outcomes;
    }

    private boolean isWinning(int node) {
        return forest.isThere(node) && outcomesNow().valueFor(forest.leftAfter(node)) == 0;
    }

    private int lowestWinning() {
        for (int node = 0; node < forest.nodes; node++) {
            if (isWinning(node)) {
                return node;
            }
        }
        return NONE;
    }

    private int winningCount() {
        int winning = 0;
        for (int node = 0; node < forest.nodes; node++) {
            if (isWinning(node)) {
                winning++;
            }
        }
        return winning;
    }

    private int sumOfTrees() {
        int sum = 0;
        int trees = forest.treeCount();
        for (int tree = 0; tree < trees; tree++) {
            sum ^= outcomesNow().valueFor(forest.treeAt(tree));
        }
        return sum;
    }

    private int lowestAlike(int tree) {
        int shape = shapes.classFor(forest.graph, forest.treeAt(tree));
        for (int lower = 0; lower < tree; lower++) {
            if (shapes.classFor(forest.graph, forest.treeAt(lower)) == shape) {
                return lower;
            }
        }
        return tree;
    }

    private int classCount() {
        int classes = 0;
        int trees = forest.treeCount();
        for (int tree = 0; tree < trees; tree++) {
            if (lowestAlike(tree) == tree) {
                classes++;
            }
        }
        return classes;
    }

    private boolean isMirror(int one, int other) {
        if (!forest.hasEdge(one, other)) {
            return false;
        }
        // There are no cycles: without the other node, a node reaches just its own part.
        int part = forest.graph.reach(one, forest.there & ~bit(other));
        int otherPart = forest.graph.reach(other, forest.there & ~bit(one));
        return Integer.bitCount(part) == Integer.bitCount(otherPart)
                && shapes.classFor(forest.graph, part) == shapes.classFor(forest.graph, otherPart);
    }

    private int mirrorsIn(int nodes) {
        int mirrors = 0;
        for (int lesser = 0; lesser < MOST_NODES; lesser++) {
            for (int greater = lesser + 1; greater < MOST_NODES; greater++) {
                if (has(nodes, lesser) && isMirror(lesser, greater)) {
                    mirrors++;
                }
            }
        }
        return mirrors;
    }

    /**
     * The bits of a double, for shares of at most 14 nodes: from 0.0 to 1.0, and none of them tiny.
     * By hand, because the language that the program keeps to has no doubleToLongBits.
     */
    private static long bitsOfShare(double share) {
        if (!(share > 0.0)) {
            return 0L;
        }
        double scaled = share;
        long exponent = 1023;
        for (int step = 0; step < MOST_NODES && scaled < 1.0; step++) {
            scaled = scaled * 2.0;
            exponent--;
        }
        return exponent << 52 | (long) ((scaled - 1.0) * (double) (1L << 52));
    }

    // ---- sets of nodes, as masks

    private static int bit(int node) {
        return node >= 0 && node < MOST_NODES ? 1 << node : 0;
    }

    private static boolean has(int set, int node) {
        return node >= 0 && node < MOST_NODES && (set >> node & 1) == 1;
    }

    /** Edges between the nodes 0 to 13: for each node the mask of its neighbours. */
    private static final class Graph {
        private final int[] edges = new int[MOST_NODES];

        private int around(int node) {
            return node >= 0 && node < MOST_NODES ? edges[node] : 0;
        }

        /** What a move takes at the most: the node and its neighbours. */
        private int takenWith(int node) {
            return node >= 0 && node < MOST_NODES ? edges[node] | 1 << node : 0;
        }

        private void link(int one, int other) {
            setAround(one, around(one) | bit(other));
            setAround(other, around(other) | bit(one));
        }

        private void unlink(int one, int other) {
            setAround(one, around(one) & ~bit(other));
            setAround(other, around(other) & ~bit(one));
        }

        private void setAround(int node, int neighbours) {
            if (node >= 0 && node < MOST_NODES) {
                edges[node] = neighbours;
            }
        }

        private void wipe() {
            Arrays.fill(edges, 0);
        }

        private void copyFrom(Graph from) {
            System.arraycopy(from.edges, 0, edges, 0, MOST_NODES);
        }

        private boolean isLike(Graph other) {
            for (int node = 0; node < MOST_NODES; node++) {
                if (edges[node] != other.edges[node]) {
                    return false;
                }
            }
            return true;
        }

        /** The nodes of a set to which a way inside the set leads from a node of it, with this one. */
        private int reach(int start, int set) {
            int reached = bit(start) & set;
            int fresh = reached;
            for (int turn = 0; turn < MOST_NODES && fresh != 0; turn++) {
                int node = Integer.numberOfTrailingZeros(fresh);
                int found = around(node) & set & ~reached;
                reached |= found;
                fresh = (fresh | found) & ~bit(node);
            }
            return reached;
        }

        private int edgesIn(int set) {
            int ends = 0;
            for (int node = 0; node < MOST_NODES; node++) {
                if (has(set, node)) {
                    ends += Integer.bitCount(around(node) & set);
                }
            }
            return ends / 2;
        }

        private int longestWay(int tree) {
            int longest = 0;
            for (int node = 0; node < MOST_NODES; node++) {
                if (has(tree, node)) {
                    longest = Math.max(longest, longestWayFrom(node, tree));
                }
            }
            return longest;
        }

        private int longestWayFrom(int start, int tree) {
            int reached = bit(start);
            int way = 0;
            for (int step = 1; step < MOST_NODES; step++) {
                int wider = reached | aroundAny(reached) & tree;
                if (wider != reached) {
                    way = step;
                }
                reached = wider;
            }
            return way;
        }

        private int aroundAny(int set) {
            int neighbours = 0;
            for (int node = 0; node < MOST_NODES; node++) {
                if (has(set, node)) {
                    neighbours |= edges[node];
                }
            }
            return neighbours;
        }
    }

    /** What a snapshot holds: the nodes, which of them are there, all their edges, and the moves so far. */
    private static final class Forest {
        private final Graph graph = new Graph();
        private int nodes = 0;
        private int there = 0;
        private int moves = 0;

        private void copyFrom(Forest from) {
            graph.copyFrom(from.graph);
            nodes = from.nodes;
            there = from.there;
            moves = from.moves;
        }

        private void wipe() {
            graph.wipe();
            nodes = 0;
            there = 0;
            moves = 0;
        }

        private void grow(int to) {
            if (nodes >= MOST_NODES) {
                return;
            }
            if (to != NONE) {
                graph.link(nodes, to);
            }
            there |= bit(nodes);
            nodes++;
        }

        private int choose(int node) {
            int left = leftAfter(node);
            int taken = Integer.bitCount(there) - Integer.bitCount(left);
            there = left;
            moves++;
            return taken;
        }

        private void startAgain() {
            there = (1 << nodes) - 1;
            moves = 0;
        }

        private boolean isThere(int node) {
            return has(there, node);
        }

        private int leftAfter(int node) {
            return there & ~graph.takenWith(node);
        }

        private boolean hasEdge(int one, int other) {
            return isThere(one) && isThere(other) && has(graph.around(one), other);
        }

        /** The taken nodes count here, too: they may come back, and must not close a cycle then. */
        private boolean canBeJoined(int one, int other) {
            return isThere(one) && isThere(other) && !has(graph.reach(one, (1 << nodes) - 1), other);
        }

        private int treeCount() {
            for (int number = 0; number < MOST_NODES; number++) {
                if (treeAt(number) == 0) {
                    return number;
                }
            }
            return MOST_NODES;
        }

        /** The nodes of the tree with this number; none if there is no such tree. */
        private int treeAt(int number) {
            int left = there;
            for (int passed = 0; passed < MOST_NODES && left != 0; passed++) {
                int tree = graph.reach(Integer.numberOfTrailingZeros(left), there);
                if (passed == number) {
                    return tree;
                }
                left &= ~tree;
            }
            return 0;
        }

        private int treeNumber(int node) {
            for (int number = 0; number < MOST_NODES; number++) {
                if (has(treeAt(number), node)) {
                    return number;
                }
            }
            return NONE;
        }

        private int lesserNeighbours(int node) {
            return graph.around(node) & (bit(node) - 1);
        }

        private int lesserNeighbour(int node) {
            int lesser = lesserNeighbours(node);
            return lesser == 0 ? NONE : Integer.numberOfTrailingZeros(lesser);
        }

        private boolean canBeWritten() {
            for (int node = 0; node < nodes; node++) {
                if (Integer.bitCount(lesserNeighbours(node)) > 1) {
                    return false;
                }
            }
            return true;
        }
    }

    /** The latest saved states; the oldest one gives its row to a new one when all rows are used. */
    private static final class History {
        private final Forest[] rows = new Forest[MOST_SAVED];
        private int oldest = 0;
        private int size = 0;

        private History() {
            for (int row = 0; row < MOST_SAVED; row++) {
                rows[row] = new Forest();
            }
        }

        private void save(Forest forest) {
            if (size >= MOST_SAVED) {
                oldest = (oldest + 1) % MOST_SAVED;
                size = MOST_SAVED - 1;
            }
            Forest row = rows[Math.floorMod(oldest + size, MOST_SAVED)];
            if (row != null) {
                row.copyFrom(forest);
            }
            size++;
        }

        private void restore(Forest forest) {
            if (size <= 0) {
                return;
            }
            size--;
            Forest row = rows[Math.floorMod(oldest + size, MOST_SAVED)];
            if (row != null) {
                forest.copyFrom(row);
            }
        }
    }

    /** The buffer: a character for each node, "." or the letter of the lesser node to which it has an edge. */
    private static final class Text {
        private static final int NO_EDGE = '.';
        private static final int FIRST_LETTER = 'a';
        private static final int WRONG = -2;

        private final int[] codes = new int[MOST_CHARACTERS];
        private int size = 0;

        private void wipe() {
            size = 0;
        }

        private void put(int code) {
            if (size >= 0 && size < MOST_CHARACTERS) {
                codes[size] = code;
                size++;
            }
        }

        private void putLesser(int lesser) {
            put(lesser == NONE ? NO_EDGE : FIRST_LETTER + lesser);
        }

        private int codeAt(int place) {
            return place >= 0 && place < size && place < MOST_CHARACTERS ? codes[place] : 0;
        }

        /** The lesser node that a character names, or NONE, or WRONG if it is a syntax error. */
        private int lesserAt(int place) {
            int code = codeAt(place);
            if (code == NO_EDGE) {
                return NONE;
            }
            int lesser = code - FIRST_LETTER;
            return lesser >= 0 && lesser < place ? lesser : WRONG;
        }

        private int firstWrong() {
            for (int place = 0; place < size; place++) {
                if (lesserAt(place) == WRONG) {
                    return place;
                }
            }
            return size;
        }
    }

    /** Tells the classes of trees by numbers: the same one for two trees just if they are of one class. */
    private static final class Shapes {
        private static final int INT_DIGITS = 32;

        private final int[] codes = new int[MOST_NODES];

        /** The greatest of the tree's codes from all of its nodes, so that it does not matter how they are numbered. */
        private int classFor(Graph graph, int tree) {
            int greatest = 0;
            for (int root = 0; root < MOST_NODES; root++) {
                if (has(tree, root)) {
                    greatest = Math.max(greatest, codeFrom(graph, tree, root, 0));
                }
            }
            return greatest;
        }

        private int codeFrom(Graph graph, int set, int root, int depth) {
            if (depth > MOST_NODES) {
                return 0;
            }
            int below = set & ~bit(root);
            int branches = graph.around(root) & below;
            for (int branch = 0; branch < MOST_NODES; branch++) {
                if (has(branches, branch)) {
                    codes[branch] = codeFrom(graph, below, branch, depth + 1);
                }
            }
            return codeOver(branches);
        }

        /** In binary digits: 1, then the codes of the branches from the greatest one down, then 0. */
        private int codeOver(int branches) {
            int code = 1;
            int left = branches;
            for (int turn = 0; turn < MOST_NODES && left != 0; turn++) {
                int next = 0;
                int greatest = 0;
                for (int branch = 0; branch < MOST_NODES; branch++) {
                    if (has(left, branch) && codes[branch] > greatest) {
                        next = branch;
                        greatest = codes[branch];
                    }
                }
                int digits = INT_DIGITS - Integer.numberOfLeadingZeros(greatest);
                code = code << digits | greatest;
                left &= ~bit(next);
            }
            return code << 1;
        }
    }

    /** What the game comes to from the sets of nodes of a graph: worked out when asked for, and then known. */
    private static final class Outcomes {
        private static final int PART = 255;
        private static final int SHORTEST = 8;
        private static final int LONGEST = 16;
        private static final int KNOWN = 1 << 24;
        private static final int MISERE_KNOWN = 1 << 25;
        private static final int MISERE_WON = 1 << 26;

        private final Graph graph = new Graph();
        private final int[] facts = new int[1 << MOST_NODES];

        /** What is known stays known until an edge is another one: taking nodes only asks for other sets. */
        private void follow(Graph now) {
            if (!graph.isLike(now)) {
                graph.copyFrom(now);
                Arrays.fill(facts, 0);
            }
        }

        private int valueFor(int set) {
            return factsOf(set, 0) & PART;
        }

        private int shortestFor(int set) {
            return factsOf(set, 0) >> SHORTEST & PART;
        }

        private int longestFor(int set) {
            return factsOf(set, 0) >> LONGEST & PART;
        }

        private boolean isMisereWonFor(int set) {
            return isMisereWon(set, 0);
        }

        private static int pack(int value, int shortest, int longest) {
            return value | shortest << SHORTEST | longest << LONGEST;
        }

        private int factsOf(int set, int depth) {
            if (set <= 0 || set >= facts.length || depth > MOST_NODES) {
                return 0;
            }
            if ((facts[set] & KNOWN) == 0) {
                int tree = graph.reach(Integer.numberOfTrailingZeros(set), set);
                int found = tree == set ? factsOfTree(set, depth) : factsOfParts(tree, set & ~tree, depth);
                facts[set] |= found | KNOWN;
            }
            return facts[set];
        }

        /** Parts that no edge joins are played side by side: values add without carry, moves add. */
        private int factsOfParts(int part, int others, int depth) {
            int one = factsOf(part, depth + 1);
            int other = factsOf(others, depth + 1);
            return pack((one ^ other) & PART,
                    (one >> SHORTEST & PART) + (other >> SHORTEST & PART),
                    (one >> LONGEST & PART) + (other >> LONGEST & PART));
        }

        private int factsOfTree(int tree, int depth) {
            int values = 0;
            int shortest = MOST_NODES;
            int longest = 0;
            for (int node = 0; node < MOST_NODES; node++) {
                if (has(tree, node)) {
                    int left = factsOf(tree & ~graph.takenWith(node), depth + 1);
                    values |= 1 << (left & PART);
                    shortest = Math.min(shortest, left >> SHORTEST & PART);
                    longest = Math.max(longest, left >> LONGEST & PART);
                }
            }
            return pack(Integer.numberOfTrailingZeros(~values), shortest + 1, longest + 1);
        }

        private boolean isMisereWon(int set, int depth) {
            if (set <= 0 || set >= facts.length || depth > MOST_NODES) {
                return true;
            }
            if ((facts[set] & MISERE_KNOWN) == 0) {
                int found = hasMisereWin(set, depth) ? MISERE_WON : 0;
                facts[set] |= found | MISERE_KNOWN;
            }
            return (facts[set] & MISERE_WON) != 0;
        }

        private boolean hasMisereWin(int set, int depth) {
            boolean isLoneTried = false;
            for (int node = 0; node < MOST_NODES; node++) {
                boolean isLone = (graph.around(node) & set) == 0;
                // What is left without one lone node is like what is left without another one.
                if (has(set, node) && !(isLone && isLoneTried)) {
                    if (!isMisereWon(set & ~graph.takenWith(node), depth + 1)) {
                        return true;
                    }
                    isLoneTried |= isLone;
                }
            }
            return false;
        }
    }
}
