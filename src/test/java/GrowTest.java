/** Promises 5 to 8, and of 15 what 3 and 4: clusters that grow, and the fix. */
public final class GrowTest {
    private static final int[] STRANGE = {-1, -2, 30, 31, 32, 60, 64, Integer.MAX_VALUE, Integer.MIN_VALUE};

    public static void main(String[] args) {
        nothingGrown();
        nothingFired();
        emptyObject();
        bothEndsFeed();
        halfWay();
        anOddLengthIsPassed();
        firstOfTwoIsTheBranch();
        clustersOfTheRoundsBeginning();
        insideEdgesGoOnGrowing();
        leastBoundaryIsTheRoot();
        fixOfAStar();
        evenClustersStand();
        stuckAlone();
        stuckAfterAFix();
        laterChangesAreNotSeen();
        longestGrowth();
        strangeNumbers();
        Check.done();
    }

    private static void grown(String where, GrowDecoder x, int clusters, int rounds, long branches, long fix) {
        Check.due(where + ": clusters", x.total(3), clusters);
        Check.due(where + ": rounds", x.total(4), rounds);
        Check.due(where + ": branches", x.grown(0), branches);
        Check.due(where + ": fix", x.grown(1), fix);
    }

    private static void clusters(String where, GrowDecoder x, int... least) {
        for (int p = 0; p < least.length; p++) {
            Check.due(where + ": cluster(" + p + ")", x.cluster(p), least[p]);
        }
    }

    private static void sizes(String where, GrowDecoder x, int... sizes) {
        for (int e = 0; e < sizes.length; e++) {
            Check.due(where + ": size(" + e + ")", x.size(e), sizes[e]);
        }
    }

    private static void nothingGrown() {
        GrowDecoder x = Check.points("fi");
        Check.edges(x, 0, 1, 1);
        grown("nothing grown", x, 0, 0, 0, 0);
        clusters("nothing grown", x, -1, -1);
        sizes("nothing grown", x, -1);
        Check.due("nothing grown: grown(2)", x.grown(2), -1);
        Check.due("nothing grown: grown(-1)", x.grown(-1), -1);
    }

    private static void nothingFired() {
        GrowDecoder x = Check.points("iib");
        Check.edges(x, 0, 1, 1, 1, 2, 1);
        Check.due("nothing fired: grow()", Check.grow(x), 0);
        grown("nothing fired", x, 3, 0, 0, 0);
        clusters("nothing fired", x, 0, 1, 2, -1);
        sizes("nothing fired", x, 0, 0, -1);
    }

    private static void emptyObject() {
        GrowDecoder x = new GrowDecoder();
        Check.due("empty: grow()", Check.grow(x), 0);
        grown("empty", x, 0, 0, 0, 0);
        clusters("empty", x, -1);
        sizes("empty", x, -1);
    }

    private static void bothEndsFeed() {
        GrowDecoder x = Check.points("ff");
        Check.edges(x, 0, 1, 4);
        Check.due("both ends: grow()", Check.grow(x), 2);
        grown("both ends", x, 1, 2, 1, 1);
        clusters("both ends", x, 0, 0);
        sizes("both ends", x, 4);
    }

    private static void halfWay() {
        GrowDecoder x = Check.points("fib");
        Check.edges(x, 0, 1, 5, 0, 2, 2);
        Check.due("half way: grow()", Check.grow(x), 2);
        grown("half way", x, 2, 2, 2, 2);
        clusters("half way", x, 0, 1, 0);
        sizes("half way", x, 2, 2);
    }

    private static void anOddLengthIsPassed() {
        GrowDecoder x = Check.points("ff");
        Check.edges(x, 1, 0, 3);
        Check.due("odd length: grow()", Check.grow(x), 2);
        sizes("odd length", x, 4);
        Check.due("odd length: fix", x.grown(1), 1);
    }

    private static void firstOfTwoIsTheBranch() {
        GrowDecoder x = Check.points("ff");
        Check.edges(x, 0, 1, 2, 1, 0, 1, 0, 1, 2);
        Check.due("first of several: grow()", Check.grow(x), 1);
        grown("first of several", x, 1, 1, 1, 1);
        sizes("first of several", x, 2, 2, 2);
    }

    // Round 1 joins 0 and 1 by edge 0; edge 1 hangs at 1, which was no odd cluster then, and gets 1
    // only in the rounds behind it.
    private static void clustersOfTheRoundsBeginning() {
        GrowDecoder x = Check.points("fib");
        Check.edges(x, 0, 1, 1, 1, 2, 3);
        Check.due("beginning of a round: grow()", Check.grow(x), 4);
        grown("beginning of a round", x, 1, 4, 3, 3);
        sizes("beginning of a round", x, 1, 3);
    }

    private static void insideEdgesGoOnGrowing() {
        GrowDecoder x = Check.points("fib");
        Check.edges(x, 0, 1, 1, 0, 1, 4, 1, 2, 2);
        Check.due("inside: grow()", Check.grow(x), 3);
        grown("inside", x, 1, 3, 5, 5);
        sizes("inside", x, 1, 5, 2);
    }

    private static void leastBoundaryIsTheRoot() {
        GrowDecoder x = Check.points("fibb");
        Check.edges(x, 0, 3, 1, 0, 2, 1, 0, 1, 1);
        Check.due("two boundaries: grow()", Check.grow(x), 1);
        grown("two boundaries", x, 1, 1, 7, 2);
        clusters("two boundaries", x, 0, 0, 0, 0);

        x = Check.points("bfb");
        Check.edges(x, 1, 2, 1, 1, 0, 2);
        Check.due("the nearer boundary: grow()", Check.grow(x), 1);
        grown("the nearer boundary", x, 2, 1, 1, 1);
        clusters("the nearer boundary", x, 0, 1, 1);
    }

    // Three fired leaves round the point 1, and the boundary 4 at one of them.
    private static void fixOfAStar() {
        GrowDecoder x = Check.points("fiffb");
        Check.edges(x, 0, 1, 2, 1, 2, 2, 3, 1, 2, 3, 4, 2);
        Check.due("star: grow()", Check.grow(x), 2);
        grown("star", x, 1, 2, 15, 11);
        clusters("star", x, 0, 0, 0, 0, 0);

        x = Check.points("fiff");
        Check.edges(x, 0, 1, 1, 1, 2, 1, 3, 1, 1);
        x.point(false);
        x.fire(4, true);
        x.edge(4, 3, 2);
        Check.due("four of a tree: grow()", Check.grow(x), 1);
        grown("four of a tree", x, 1, 1, 15, 11);
    }

    // The clusters of 0 and 1, of 2 and 3 are even in round 1, and stand while 4 goes on.
    private static void evenClustersStand() {
        GrowDecoder x = Check.points("fffffb");
        Check.edges(x, 0, 1, 1, 1, 2, 9, 2, 3, 2, 3, 4, 9, 4, 5, 5);
        Check.due("even: grow()", Check.grow(x), 5);
        grown("even", x, 3, 5, 21, 21);
        sizes("even", x, 2, 2, 2, 6, 5);
        clusters("even", x, 0, 0, 2, 2, 4, 4);
    }

    private static void stuckAlone() {
        GrowDecoder x = Check.points("if");
        Check.due("alone: grow()", Check.grow(x), Check.ARITHMETIC);
        grown("alone", x, 2, 1, 0, 0);
        clusters("alone", x, 0, 1, -1);
    }

    private static void stuckAfterAFix() {
        GrowDecoder x = Check.points("ffi");
        Check.edges(x, 0, 1, 2, 1, 2, 3);
        Check.due("before stuck: grow()", Check.grow(x), 1);
        grown("before stuck", x, 2, 1, 1, 1);
        x.fire(2, true);
        Check.due("stuck: grow()", Check.grow(x), Check.ARITHMETIC);
        grown("stuck", x, 1, 3, 3, 0);
        clusters("stuck", x, 0, 0, 0);
        sizes("stuck", x, 2, 3);
        x.fire(2, false);
        x.fire(1, false);
        x.fire(0, false);
        Check.due("stuck no more: grow()", Check.grow(x), 0);
        grown("stuck no more", x, 3, 0, 0, 0);
        sizes("stuck no more", x, 0, 0);
    }

    private static void laterChangesAreNotSeen() {
        GrowDecoder x = Check.points("ff");
        Check.edges(x, 0, 1, 1);
        Check.grow(x);
        x.point(true);
        x.edge(1, 2, 1);
        x.fire(1, false);
        grown("later", x, 1, 1, 1, 1);
        clusters("later", x, 0, 0, -1);
        sizes("later", x, 2, -1);
        x.believe(3);
        x.answer();
        grown("later still", x, 1, 1, 1, 1);
        Check.due("anew: grow()", Check.grow(x), 2);
        grown("anew", x, 1, 2, 3, 3);
        clusters("anew", x, 0, 0, 0);
        sizes("anew", x, 1, 1);
    }

    // A path of 30 points, fed from one end alone: each edge is begun a round behind the last one's end.
    private static void longestGrowth() {
        GrowDecoder x = Check.points("fiiiiiiiiiiiiiiiiiiiiiiiiiiiib");
        for (int p = 0; p < 29; p++) {
            x.edge(p, p + 1, 20);
        }
        Check.due("long: grow()", Check.grow(x), 580);
        grown("long", x, 1, 580, (1L << 29) - 1, (1L << 29) - 1);
        Check.due("long: cluster(29)", x.cluster(29), 0);
    }

    private static void strangeNumbers() {
        GrowDecoder x = Check.points("ff");
        Check.edges(x, 0, 1, 1);
        Check.grow(x);
        for (int strange : STRANGE) {
            Check.due("cluster(" + strange + ")", x.cluster(strange), -1);
            Check.due("size(" + strange + ")", x.size(strange), -1);
            Check.due("grown(" + strange + ")", x.grown(strange), -1);
        }
        Check.due("cluster(2)", x.cluster(2), -1);
        Check.due("size(1)", x.size(1), -1);
        Check.due("grown(2)", x.grown(2), -1);
    }
}
