import java.util.Arrays;

/**
 * Faults that fired checks, found without looking at all pairs: clusters that grow till none is
 * odd, peeled to a fix; beliefs that are sent to and fro in whole numbers till they settle; what is
 * left put in order and solved by rows.
 *
 * <p>Sets of points are the bits of an int, sets of edges the bits of a long. All arrays are made
 * with the object and used again by every call.
 */
public final class GrowDecoder {
    public static final int NONE = -1;

    private static final int MOST_POINTS = 30;
    private static final int MOST_EDGES = 60;
    private static final int MOST_LENGTH = 20;
    private static final int MOST_TURNS = 40;
    private static final int MOST_SENT = 1000;
    // Each round but a stuck one adds to a size that is below its length, so there are no more.
    private static final int MOST_ROUNDS = MOST_EDGES * MOST_LENGTH + 1;

    private final Graph graph;
    private final Growth growth;
    private final Beliefs beliefs;
    private final Rows rows;

    public GrowDecoder() {
        graph = new Graph();
        growth = new Growth();
        beliefs = new Beliefs();
        rows = new Rows();
    }

    public int point(boolean boundary) {
        if (graph.points >= MOST_POINTS) {
            return NONE;
        }
        beliefs.forget();
        return graph.addPoint(boundary);
    }

    public int edge(int a, int b, int length) {
        if (!graph.canJoin(a, b) || length < 1 || length > MOST_LENGTH || graph.edges >= MOST_EDGES) {
            return NONE;
        }
        beliefs.forget();
        return graph.addEdge(a, b, length);
    }

    public boolean fire(int point, boolean on) {
        if (!graph.hasPoint(point) || graph.isBoundary(point) || graph.isFired(point) == on) {
            return false;
        }
        beliefs.forget();
        graph.fired ^= 1 << point;
        return true;
    }

    public int grow() throws ArithmeticException {
        if (!growth.growOver(graph)) {
            throw new ArithmeticException("stuck");
        }
        return growth.rounds;
    }

    public int cluster(int point) {
        return point >= 0 && point < growth.points ? growth.least[point] : NONE;
    }

    public int size(int edge) {
        return edge >= 0 && edge < growth.edges ? growth.sizes[edge] : NONE;
    }

    public long grown(int what) {
        switch (what) {
            case 0:
                return growth.branches;
            case 1:
                return growth.fix;
            default:
                return NONE;
        }
    }

    public int believe(int turns) {
        if (turns < 1 || turns > MOST_TURNS) {
            return NONE;
        }
        return beliefs.settle(graph, turns);
    }

    public int sent(int edge, int side) throws IllegalStateException, IllegalArgumentException {
        if (!beliefs.held) {
            throw new IllegalStateException("nothing was believed since a change");
        }
        if (!graph.hasEdge(edge) || side < 0 || side > 2) {
            throw new IllegalArgumentException("no such edge or side");
        }
        if (side == 2) {
            return beliefs.beliefOf(graph, edge);
        }
        return side == 0 ? beliefs.fromFirst[edge] : beliefs.fromSecond[edge];
    }

    public long guess() {
        return beliefs.held ? beliefs.negative : 0;
    }

    public long answer() {
        rows.choose(graph, beliefs);
        return rows.solve(graph.fired);
    }

    public int chosen() {
        rows.choose(graph, beliefs);
        return rows.count;
    }

    public int syndrome(long edges) {
        // At most 60 edges, so the shift is never one by 64, which Java would take for 0.
        return edges >>> graph.edges != 0 ? NONE : graph.oddEnds(edges);
    }

    public int total(int what) {
        switch (what) {
            case 0:
                return graph.points;
            case 1:
                return graph.edges;
            case 2:
                return graph.fired;
            case 3:
                return growth.clusters;
            case 4:
                return growth.rounds;
            default:
                return NONE;
        }
    }

    /** The points, the edges and what is fired. */
    private static final class Graph {
        final int[] first = new int[MOST_EDGES];
        final int[] second = new int[MOST_EDGES];
        final int[] lengths = new int[MOST_EDGES];
        int points;
        int edges;
        int boundaries;
        int fired;

        boolean hasPoint(int p) {
            return p >= 0 && p < points;
        }

        boolean hasEdge(int e) {
            return e >= 0 && e < edges;
        }

        boolean isBoundary(int p) {
            return (boundaries >>> p & 1) != 0;
        }

        boolean isFired(int p) {
            return (fired >>> p & 1) != 0;
        }

        boolean canJoin(int a, int b) {
            return hasPoint(a) && hasPoint(b) && a != b && !(isBoundary(a) && isBoundary(b));
        }

        int addPoint(boolean boundary) {
            int p = points;
            if (boundary) {
                boundaries |= 1 << p;
            }
            points = p + 1;
            return p;
        }

        int addEdge(int a, int b, int length) {
            int e = edges;
            first[e] = a;
            second[e] = b;
            lengths[e] = length;
            edges = e + 1;
            return e;
        }

        /** The syndrome of one edge alone. */
        int innerEnds(int e) {
            return (1 << first[e] | 1 << second[e]) & ~boundaries;
        }

        /** The syndrome of a set of edges, all of which there are. */
        int oddEnds(long set) {
            int odd = 0;
            for (int e = 0; e < edges; e++) {
                if ((set >>> e & 1) != 0) {
                    odd ^= innerEnds(e);
                }
            }
            return odd;
        }
    }

    /**
     * What was grown last. As long as nothing was, it has no points and no edges, and so gives the
     * answers that are due then.
     */
    private static final class Growth {
        final int[] least = new int[MOST_POINTS];
        // The cluster's points, to be found at its least point; stale at every other point.
        final int[] members = new int[MOST_POINTS];
        final int[] sizes = new int[MOST_EDGES];
        final int[] walk = new int[MOST_POINTS];
        final int[] reachedBy = new int[MOST_POINTS];
        int walked;
        int seen;
        int points;
        int edges;
        int clusters;
        int rounds;
        long branches;
        long fix;

        /** False if it is stuck. */
        boolean growOver(Graph g) {
            begin(g);
            int odd = pointsOfOddClusters(g);
            while (odd != 0 && rounds < MOST_ROUNDS) {
                rounds++;
                long fed = feed(g, odd);
                if (fed == 0) {
                    return false;
                }
                joinFull(g, fed);
                odd = pointsOfOddClusters(g);
            }
            peel(g);
            return true;
        }

        private void begin(Graph g) {
            points = g.points;
            edges = g.edges;
            clusters = points;
            rounds = 0;
            branches = 0;
            fix = 0;
            for (int p = 0; p < points; p++) {
                least[p] = p;
                members[p] = 1 << p;
            }
            Arrays.fill(sizes, 0);
        }

        private int pointsOfOddClusters(Graph g) {
            int odd = 0;
            for (int p = 0; p < points; p++) {
                if (least[p] == p && isOdd(g, members[p])) {
                    odd |= members[p];
                }
            }
            return odd;
        }

        private static boolean isOdd(Graph g, int set) {
            return (set & g.boundaries) == 0 && (Integer.bitCount(set & g.fired) & 1) != 0;
        }

        /** The set of edges that got something. */
        private long feed(Graph g, int odd) {
            long fed = 0;
            for (int e = 0; e < edges; e++) {
                int gain = (odd >>> g.first[e] & 1) + (odd >>> g.second[e] & 1);
                if (sizes[e] < g.lengths[e] && gain > 0) {
                    sizes[e] += gain;
                    fed |= 1L << e;
                }
            }
            return fed;
        }

        private void joinFull(Graph g, long fed) {
            for (int e = 0; e < edges; e++) {
                boolean full = (fed >>> e & 1) != 0 && sizes[e] >= g.lengths[e];
                if (full && least[g.first[e]] != least[g.second[e]]) {
                    join(least[g.first[e]], least[g.second[e]]);
                    branches |= 1L << e;
                }
            }
        }

        private void join(int a, int b) {
            int low = Math.min(a, b);
            int high = Math.max(a, b);
            members[low] |= members[high];
            for (int p = 0; p < points; p++) {
                if (least[p] == high) {
                    least[p] = low;
                }
            }
            clusters--;
        }

        /** From the points that are farthest from their root inwards: what is odd is handed on. */
        private void peel(Graph g) {
            walkFromRoots(g);
            int odd = g.fired;
            for (int i = walked - 1; i >= 0; i--) {
                int p = walk[i];
                int e = reachedBy[p];
                if (e != NONE && (odd >>> p & 1) != 0) {
                    fix |= 1L << e;
                    odd ^= 1 << otherEnd(g, e, p);
                }
            }
        }

        private void walkFromRoots(Graph g) {
            walked = 0;
            seen = 0;
            for (int p = 0; p < points; p++) {
                if (least[p] == p) {
                    reach(rootOf(g, p), NONE);
                }
            }
            for (int i = 0; i < points && i < walked; i++) {
                walkOnFrom(g, walk[i]);
            }
        }

        private int rootOf(Graph g, int leastPoint) {
            int bounds = members[leastPoint] & g.boundaries;
            return bounds != 0 ? Integer.numberOfTrailingZeros(bounds) : leastPoint;
        }

        private void walkOnFrom(Graph g, int p) {
            for (int e = 0; e < edges; e++) {
                boolean endsHere = g.first[e] == p || g.second[e] == p;
                if (endsHere && (branches >>> e & 1) != 0) {
                    reach(otherEnd(g, e, p), e);
                }
            }
        }

        // Each point is seen once, so the walk has never more places than there are points.
        private void reach(int p, int by) {
            if ((seen >>> p & 1) != 0) {
                return;
            }
            seen |= 1 << p;
            reachedBy[p] = by;
            walk[walked] = p;
            walked++;
        }

        private static int otherEnd(Graph g, int e, int p) {
            return g.first[e] == p ? g.second[e] : g.first[e];
        }
    }

    /** What edges and points sent to one another in the last turn. */
    private static final class Beliefs {
        final int[] fromFirst = new int[MOST_EDGES];
        final int[] fromSecond = new int[MOST_EDGES];
        final int[] toFirst = new int[MOST_EDGES];
        final int[] toSecond = new int[MOST_EDGES];
        // Of the sizes sent to a point the least and the one next to it: with both, the least of
        // the others is known for each edge without looking at the others again.
        final int[] least = new int[MOST_POINTS];
        final int[] next = new int[MOST_POINTS];
        int flipped;
        long negative;
        boolean held;

        void forget() {
            held = false;
        }

        /** The turn behind which it was settled, 0 if it was not. */
        int settle(Graph g, int turns) {
            Arrays.fill(fromFirst, 0);
            Arrays.fill(fromSecond, 0);
            held = true;
            for (int turn = 1; turn <= turns; turn++) {
                sendToPoints(g);
                gather(g);
                sendToEdges(g);
                negative = negativeEdges(g);
                if (g.oddEnds(negative) == g.fired) {
                    return turn;
                }
            }
            return 0;
        }

        int beliefOf(Graph g, int e) {
            return g.lengths[e] + fromFirst[e] + fromSecond[e];
        }

        private void sendToPoints(Graph g) {
            for (int e = 0; e < g.edges; e++) {
                toFirst[e] = bounded(g.lengths[e] + fromSecond[e]);
                toSecond[e] = bounded(g.lengths[e] + fromFirst[e]);
            }
        }

        private static int bounded(int number) {
            return Math.max(-MOST_SENT, Math.min(MOST_SENT, number));
        }

        private void gather(Graph g) {
            Arrays.fill(least, MOST_SENT);
            Arrays.fill(next, MOST_SENT);
            flipped = g.fired;
            for (int e = 0; e < g.edges; e++) {
                gatherAt(g.first[e], toFirst[e]);
                gatherAt(g.second[e], toSecond[e]);
            }
        }

        private void gatherAt(int p, int number) {
            int size = Math.abs(number);
            if (size < least[p]) {
                next[p] = least[p];
                least[p] = size;
            } else if (size < next[p]) {
                next[p] = size;
            }
            if (number < 0) {
                flipped ^= 1 << p;
            }
        }

        private void sendToEdges(Graph g) {
            for (int e = 0; e < g.edges; e++) {
                fromFirst[e] = sentBack(g, g.first[e], toFirst[e]);
                fromSecond[e] = sentBack(g, g.second[e], toSecond[e]);
            }
        }

        /** What a point sends to the edge that sent it this number, by the numbers of the others. */
        private int sentBack(Graph g, int p, int number) {
            if (g.isBoundary(p)) {
                return 0;
            }
            int size = Math.abs(number) == least[p] ? next[p] : least[p];
            boolean below = ((flipped >>> p & 1) != 0) != (number < 0);
            return below ? -size : size;
        }

        private long negativeEdges(Graph g) {
            long set = 0;
            for (int e = 0; e < g.edges; e++) {
                if (beliefOf(g, e) < 0) {
                    set |= 1L << e;
                }
            }
            return set;
        }
    }

    /** The chosen edges as rows, each to be found at the least point of its syndrome. */
    private static final class Rows {
        final int[] order = new int[MOST_EDGES];
        final int[] weights = new int[MOST_EDGES];
        final int[] rowPoints = new int[MOST_POINTS];
        final long[] rowEdges = new long[MOST_POINTS];
        int count;
        int leftPoints;
        long usedEdges;

        void choose(Graph g, Beliefs b) {
            putInOrder(g, b);
            Arrays.fill(rowPoints, 0);
            count = 0;
            for (int i = 0; i < g.edges; i++) {
                int e = order[i];
                reduce(g.innerEnds(e), 1L << e);
                if (leftPoints != 0) {
                    int p = Integer.numberOfTrailingZeros(leftPoints);
                    rowPoints[p] = leftPoints;
                    rowEdges[p] = usedEdges;
                    count++;
                }
            }
        }

        /** The set of chosen edges with this syndrome; NONE if there is none. */
        long solve(int points) {
            reduce(points, 0);
            return leftPoints == 0 ? usedEdges : NONE;
        }

        private void putInOrder(Graph g, Beliefs b) {
            for (int e = 0; e < g.edges; e++) {
                weights[e] = b.held ? b.beliefOf(g, e) : g.lengths[e];
                insert(e);
            }
        }

        // Only what is heavier moves back, so of several alike the first stays the first.
        private void insert(int e) {
            int at = e;
            while (at > 0 && weights[order[at - 1]] > weights[e]) {
                order[at] = order[at - 1];
                at--;
            }
            order[at] = e;
        }

        // A row has no point below the one where it is found: one pass upwards takes out all.
        private void reduce(int points, long edges) {
            leftPoints = points;
            usedEdges = edges;
            for (int p = 0; p < MOST_POINTS; p++) {
                if ((leftPoints >>> p & 1) != 0 && rowPoints[p] != 0) {
                    leftPoints ^= rowPoints[p];
                    usedEdges ^= rowEdges[p];
                }
            }
        }
    }
}
