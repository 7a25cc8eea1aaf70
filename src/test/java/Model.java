import java.util.ArrayList;
import java.util.HashMap;
import java.util.List;
import java.util.Map;

/**
 * The document's words once more, told as literally as can be and without regard to speed: values and games by all
 * that is left, never by trees; classes by pairing nodes. ModelTest compares the program with it.
 */
final class Model {
    private static final class State {
        int nodes = 0;
        boolean[][] edge = new boolean[14][14];
        boolean[] taken = new boolean[14];
        int player = 0;
        int moves = 0;

        State copy() {
            State made = new State();
            made.nodes = nodes;
            for (int node = 0; node < 14; node++) {
                made.edge[node] = edge[node].clone();
            }
            made.taken = taken.clone();
            made.player = player;
            made.moves = moves;
            return made;
        }
    }

    private State now = new State();
    private final List<State> saved = new ArrayList<>();
    private final State[] slots = new State[2];
    private String text = "";
    private Map<Integer, Integer> values = new HashMap<>();
    private Map<Integer, Boolean> misere = new HashMap<>();
    private Map<Integer, Integer> shortest = new HashMap<>();
    private Map<Integer, Integer> longest = new HashMap<>();

    // ---- calls that change something

    int node(int to) {
        require(to == -1 || isNode(to), new IndexOutOfBoundsException());
        require(now.nodes < 14 && (to == -1 || !now.taken[to]), new IllegalStateException());
        save();
        addNode(to);
        return now.nodes - 1;
    }

    private void addNode(int to) {
        if (to != -1) {
            now.edge[to][now.nodes] = true;
            now.edge[now.nodes][to] = true;
        }
        now.nodes++;
    }

    int join(int one, int other) {
        require(isNode(one) && isNode(other), new IndexOutOfBoundsException());
        require(canJoin(one, other), new IllegalStateException());
        save();
        setEdge(one, other, true);
        return trees().size();
    }

    int cut(int one, int other) {
        require(isNode(one) && isNode(other), new IndexOutOfBoundsException());
        require(isThere(one) && isThere(other) && now.edge[one][other], new IllegalStateException());
        int answer = isMirror(one, other) ? 1 : 0;
        save();
        setEdge(one, other, false);
        return answer;
    }

    int take(int node) {
        require(isNode(node), new IndexOutOfBoundsException());
        require(isThere(node), new IllegalStateException());
        save();
        return choose(node);
    }

    int reply() {
        require(there() != 0, new IllegalStateException());
        int node = best();
        for (int other = 0; other < now.nodes && node == -1; other++) {
            if (isThere(other)) {
                node = other;
            }
        }
        save();
        choose(node);
        return node;
    }

    private int choose(int node) {
        int before = Integer.bitCount(there());
        for (int other = 0; other < now.nodes; other++) {
            if (now.edge[node][other]) {
                now.taken[other] = true;
            }
        }
        now.taken[node] = true;
        now.player = 1 - now.player;
        now.moves++;
        return before - Integer.bitCount(there());
    }

    int again() {
        int answer = now.nodes - Integer.bitCount(there());
        save();
        now.taken = new boolean[14];
        now.player = 0;
        now.moves = 0;
        return answer;
    }

    int append(int code) {
        require(code >= 33 && code <= 126, new IllegalArgumentException());
        require(text.length() < 14, new IllegalStateException());
        text += (char) code;
        return text.length();
    }

    int clearBuffer() {
        int answer = text.length();
        text = "";
        return answer;
    }

    int firstError() {
        for (int place = 0; place < text.length(); place++) {
            String fine = "." + "abcdefghijklmn".substring(0, place);
            if (fine.indexOf(text.charAt(place)) < 0) {
                return place;
            }
        }
        return text.length();
    }

    int load() {
        require(firstError() == text.length(), new IllegalArgumentException());
        save();
        now = new State();
        for (char letter : text.toCharArray()) {
            addNode(letter == '.' ? -1 : letter - 'a');
        }
        text = "";
        return now.nodes;
    }

    int write() {
        String told = "";
        for (int node = 0; node < now.nodes; node++) {
            String letter = ".";
            for (int lesser = 0; lesser < node; lesser++) {
                if (now.edge[node][lesser]) {
                    if (!letter.equals(".")) {
                        return -1;
                    }
                    letter = "" + (char) ('a' + lesser);
                }
            }
            told += letter;
        }
        text = told;
        return text.length();
    }

    int keep(int slot) {
        require(slot == 0 || slot == 1, new IllegalArgumentException());
        slots[slot] = now.copy();
        return Integer.bitCount(there());
    }

    int goBack(int slot) {
        require(slot == 0 || slot == 1, new IllegalArgumentException());
        require(slots[slot] != null, new IllegalStateException());
        save();
        now = slots[slot].copy();
        return Integer.bitCount(there());
    }

    int undo() {
        require(!saved.isEmpty(), new IllegalStateException());
        now = saved.remove(saved.size() - 1);
        return saved.size();
    }

    private void save() {
        saved.add(now.copy());
        if (saved.size() > 6) {
            saved.remove(0);
        }
    }

    // ---- looks

    int nodeOf(int node, int what) {
        require(isNode(node), new IndexOutOfBoundsException());
        require(what >= 0 && what <= 5, new IllegalArgumentException());
        if (!isThere(node)) {
            return what < 2 ? 0 : -1;
        }
        forget();
        int left = left(there(), node);
        switch (what) {
            case 0:
                return 1;
            case 1:
                return neighbours(node) & there();
            case 2:
                return treeOf(node);
            case 3:
                return grundy(left);
            case 4:
                return grundy(left) == 0 ? 1 : 0;
            default:
                return isMisereWon(left) ? 0 : 1;
        }
    }

    int tree(int tree, int what) {
        List<Integer> trees = trees();
        require(tree >= 0 && tree < trees.size(), new IndexOutOfBoundsException());
        require(what >= 0 && what <= 5, new IllegalArgumentException());
        forget();
        int nodes = trees.get(tree);
        switch (what) {
            case 0:
                return nodes;
            case 1:
                return Integer.bitCount(nodes);
            case 2:
                return grundy(nodes);
            case 3:
                return lowestAlike(trees, tree);
            case 4:
                return mirrors(nodes).size();
            default:
                return longestWay(nodes);
        }
    }

    int count(int what) {
        require(what >= 0 && what <= 11, new IllegalArgumentException());
        forget();
        switch (what) {
            case 0:
                return now.nodes;
            case 1:
                return Integer.bitCount(there());
            case 2:
                return edges();
            case 3:
                return trees().size();
            case 4:
                return classes();
            case 5:
                return grundy(there());
            case 6:
                return trees().stream().mapToInt(this::grundy).reduce(0, (one, other) -> one ^ other);
            case 7:
                return isMisereWon(there()) ? 1 : 0;
            case 8:
                return now.player;
            case 9:
                return now.moves;
            case 10:
                return winning().size();
            default:
                return saved.size();
        }
    }

    int best() {
        List<Integer> winning = winning();
        return winning.isEmpty() ? -1 : winning.get(0);
    }

    int length(boolean isShortest) {
        forget();
        return isShortest ? shortest(there()) : longest(there());
    }

    int mirror(int rank) {
        require(rank >= 0, new IllegalArgumentException());
        List<Integer> mirrors = mirrors(there());
        return rank < mirrors.size() ? mirrors.get(rank) : -1;
    }

    int ifJoined(int one, int other) {
        require(isNode(one) && isNode(other), new IndexOutOfBoundsException());
        if (!canJoin(one, other)) {
            return -1;
        }
        setEdge(one, other, true);
        int answer = count(5);
        setEdge(one, other, false);
        return answer;
    }

    int value(int mask) {
        require((mask & ~there()) == 0, new IllegalArgumentException());
        forget();
        return grundy(mask);
    }

    double openingShare() {
        return there() == 0 ? 0.0 : (double) count(10) / count(1);
    }

    long digest() {
        List<Long> list = new ArrayList<>();
        for (int what = 0; what <= 11; what++) {
            list.add((long) count(what));
        }
        for (int node = 0; node < now.nodes; node++) {
            for (int what = 0; what <= 5; what++) {
                list.add((long) nodeOf(node, what));
            }
        }
        for (int tree = 0; tree < trees().size(); tree++) {
            for (int what = 0; what <= 5; what++) {
                list.add((long) tree(tree, what));
            }
        }
        list.add((long) best());
        list.add((long) length(true));
        list.add((long) length(false));
        for (int rank = 0; rank <= 3; rank++) {
            list.add((long) mirror(rank));
        }
        if (now.nodes > 0) {
            list.add((long) ifJoined(0, now.nodes - 1));
        }
        list.add(Double.doubleToLongBits(openingShare()));
        for (State slot : slots) {
            list.add(slot == null ? 0L : 1L);
        }
        list.add((long) text.length());
        for (char letter : text.toCharArray()) {
            list.add((long) letter);
        }
        long hash = 3221;
        for (long value : list) {
            hash = 31 * hash + value;
        }
        return hash;
    }

    // ---- what they are made of

    private static void require(boolean isFine, RuntimeException otherwise) {
        if (!isFine) {
            throw otherwise;
        }
    }

    /** Values hold for one set of edges; the same ones are kept while the edges stay. */
    private void forget() {
        String edges = java.util.Arrays.deepToString(now.edge);
        if (!edges.equals(edgesOfValues)) {
            edgesOfValues = edges;
            values = new HashMap<>();
            misere = new HashMap<>();
            shortest = new HashMap<>();
            longest = new HashMap<>();
        }
    }

    private String edgesOfValues = "";

    private boolean isNode(int node) {
        return node >= 0 && node < now.nodes;
    }

    private boolean isThere(int node) {
        return !now.taken[node];
    }

    private void setEdge(int one, int other, boolean is) {
        now.edge[one][other] = is;
        now.edge[other][one] = is;
    }

    private int there() {
        int mask = 0;
        for (int node = 0; node < now.nodes; node++) {
            mask |= isThere(node) ? 1 << node : 0;
        }
        return mask;
    }

    private int neighbours(int node) {
        int mask = 0;
        for (int other = 0; other < now.nodes; other++) {
            mask |= now.edge[node][other] ? 1 << other : 0;
        }
        return mask;
    }

    private int left(int set, int node) {
        return set & ~(1 << node) & ~neighbours(node);
    }

    private boolean canJoin(int one, int other) {
        return isThere(one) && isThere(other) && (spread(one, (1 << now.nodes) - 1) >> other & 1) == 0;
    }

    private int spread(int node, int set) {
        int reached = 1 << node;
        for (int turn = 0; turn < 14; turn++) {
            for (int from : nodesOf(reached)) {
                reached |= neighbours(from) & set;
            }
        }
        return reached;
    }

    private static List<Integer> nodesOf(int set) {
        List<Integer> nodes = new ArrayList<>();
        for (int node = 0; node < 14; node++) {
            if ((set >> node & 1) == 1) {
                nodes.add(node);
            }
        }
        return nodes;
    }

    private List<Integer> trees() {
        List<Integer> trees = new ArrayList<>();
        for (int node : nodesOf(there())) {
            int tree = spread(node, there());
            if (!trees.contains(tree)) {
                trees.add(tree);
            }
        }
        return trees;
    }

    private int treeOf(int node) {
        return trees().indexOf(spread(node, there()));
    }

    private int edges() {
        int edges = 0;
        for (int node : nodesOf(there())) {
            for (int other : nodesOf(neighbours(node) & there())) {
                edges += other > node ? 1 : 0;
            }
        }
        return edges;
    }

    private int grundy(int set) {
        if (!values.containsKey(set)) {
            List<Integer> reached = new ArrayList<>();
            for (int node : nodesOf(set)) {
                reached.add(grundy(left(set, node)));
            }
            int value = 0;
            while (reached.contains(value)) {
                value++;
            }
            values.put(set, value);
        }
        return values.get(set);
    }

    private boolean isMisereWon(int set) {
        if (!misere.containsKey(set)) {
            boolean isWon = set == 0;
            for (int node : nodesOf(set)) {
                isWon |= !isMisereWon(left(set, node));
            }
            misere.put(set, isWon);
        }
        return misere.get(set);
    }

    private int shortest(int set) {
        if (!shortest.containsKey(set)) {
            int moves = set == 0 ? 0 : 99;
            for (int node : nodesOf(set)) {
                moves = Math.min(moves, 1 + shortest(left(set, node)));
            }
            shortest.put(set, moves);
        }
        return shortest.get(set);
    }

    private int longest(int set) {
        if (!longest.containsKey(set)) {
            int moves = 0;
            for (int node : nodesOf(set)) {
                moves = Math.max(moves, 1 + longest(left(set, node)));
            }
            longest.put(set, moves);
        }
        return longest.get(set);
    }

    private List<Integer> winning() {
        forget();
        List<Integer> winning = new ArrayList<>();
        for (int node : nodesOf(there())) {
            if (grundy(left(there(), node)) == 0) {
                winning.add(node);
            }
        }
        return winning;
    }

    private int longestWay(int tree) {
        int longest = 0;
        for (int from : nodesOf(tree)) {
            longest = Math.max(longest, deepest(from, -1, tree));
        }
        return longest;
    }

    private int deepest(int node, int parent, int tree) {
        int deepest = 0;
        for (int next : nodesOf(neighbours(node) & tree)) {
            if (next != parent) {
                deepest = Math.max(deepest, 1 + deepest(next, node, tree));
            }
        }
        return deepest;
    }

    private List<Integer> mirrors(int set) {
        List<Integer> mirrors = new ArrayList<>();
        for (int lesser : nodesOf(set)) {
            for (int greater : nodesOf(set & neighbours(lesser))) {
                if (lesser < greater && isMirror(lesser, greater)) {
                    mirrors.add(100 * lesser + greater);
                }
            }
        }
        return mirrors;
    }

    private boolean isMirror(int one, int other) {
        setEdge(one, other, false);
        boolean answer = areAlike(spread(one, there()), spread(other, there()));
        setEdge(one, other, true);
        return answer;
    }

    private int lowestAlike(List<Integer> trees, int tree) {
        int lower = 0;
        while (!areAlike(trees.get(lower), trees.get(tree))) {
            lower++;
        }
        return lower;
    }

    private int classes() {
        List<Integer> trees = trees();
        int classes = 0;
        for (int tree = 0; tree < trees.size(); tree++) {
            classes += lowestAlike(trees, tree) == tree ? 1 : 0;
        }
        return classes;
    }

    private boolean areAlike(int one, int other) {
        if (Integer.bitCount(one) != Integer.bitCount(other)) {
            return false;
        }
        List<Integer> order = new ArrayList<>();
        order.add(nodesOf(one).get(0));
        for (int place = 0; place < order.size(); place++) {
            for (int next : nodesOf(neighbours(order.get(place)) & one)) {
                if (!order.contains(next)) {
                    order.add(next);
                }
            }
        }
        return canBePaired(order, one, other, new ArrayList<>());
    }

    private boolean canBePaired(List<Integer> order, int one, int other, List<Integer> pairs) {
        if (pairs.size() == order.size()) {
            return true;
        }
        int node = order.get(pairs.size());
        for (int partner : nodesOf(other)) {
            if (!pairs.contains(partner) && fits(order, node, one, partner, other, pairs)) {
                pairs.add(partner);
                if (canBePaired(order, one, other, pairs)) {
                    return true;
                }
                pairs.remove(pairs.size() - 1);
            }
        }
        return false;
    }

    private boolean fits(List<Integer> order, int node, int one, int partner, int other, List<Integer> pairs) {
        if (Integer.bitCount(neighbours(node) & one) != Integer.bitCount(neighbours(partner) & other)) {
            return false;
        }
        for (int place = 0; place < pairs.size(); place++) {
            if (now.edge[node][order.get(place)] != now.edge[partner][pairs.get(place)]) {
                return false;
            }
        }
        return true;
    }
}
