/**
 * "What it is", and "Terms" down to THE FIX: a test of its own for each sentence that names a
 * boundary case. The letters for points are those of Check.points.
 */
public final class TermsLimitsTest {
    private static final String CALLS = "What it is: at most 512 calls";
    private static final String THIRTY_INNER = "iiiiiiiiiiiiiiiiiiiiiiiiiiiiii";

    public static void main(String[] args) {
        mostCallsThatGrow();
        mostCallsThatBelieve();
        mostCallsThatAnswer();
        mostCallsOfManyKinds();
        mostPoints();
        allPointsInner();
        allPointsBoundaries();
        mostEdges();
        differentPoints();
        notBothBoundaries();
        leastLength();
        greatestLength();
        firedAreInner();
        syndromeByOddNumbers();
        syndromeWithoutBoundaries();
        grownFromTheBeginning();
        oddByNumber();
        notOddWithABoundary();
        oneForEachOddEnd();
        nothingForAFullEdge();
        onceMoreBelowTheLength();
        byTheClustersAsTheyAreThen();
        branchesInOrder();
        comeToTheLengthOrAbove();
        endsOfTwoClusters();
        noRoundWithoutAnOddCluster();
        roundsAsLongAsOneIsOdd();
        stuckAtOnce();
        stuckLater();
        notStuckWhileAnEdgeGets();
        rootIsTheLeastBoundary();
        rootWithoutABoundary();
        fixByOddNumbers();
        Check.done();
    }

    private static void clusters(GrowDecoder x, int... least) {
        for (int p = 0; p < least.length; p++) {
            Check.due("cluster(" + p + ")", x.cluster(p), least[p]);
        }
    }

    private static void sizes(GrowDecoder x, int... sizes) {
        for (int e = 0; e < sizes.length; e++) {
            Check.due("size(" + e + ")", x.size(e), sizes[e]);
        }
    }

    private static void grown(GrowDecoder x, long branches, long fix) {
        Check.due("grown(0)", x.grown(0), branches);
        Check.due("grown(1)", x.grown(1), fix);
    }

    /** 30 points in a row, fired at one end, 60 edges of the greatest length: 91 calls. */
    private static GrowDecoder fullRow() {
        GrowDecoder x = Check.points("iiiiiiiiiiiiiiiiiiiiiiiiiiiiib");
        for (int e = 0; e < 60; e++) {
            x.edge(e % 29, e % 29 + 1, 20);
        }
        x.fire(0, true);
        return x;
    }

    private static void mostCallsThatGrow() {
        Check.sentence(CALLS + ", all that are left grow()");
        GrowDecoder x = fullRow();
        for (int call = 92; call <= 512; call++) {
            Check.due("call " + call + ", grow()", Check.grow(x), 580);
        }
    }

    // Edges with the same ends are believed alike, so both of two are guessed or none is: the way
    // to the boundary is never guessed, and every call takes all 40 turns.
    private static void mostCallsThatBelieve() {
        Check.sentence(CALLS + ", all that are left believe(40)");
        GrowDecoder x = fullRow();
        for (int call = 92; call <= 512; call++) {
            Check.due("call " + call + ", believe(40)", x.believe(40), 0);
        }
    }

    private static void mostCallsThatAnswer() {
        Check.sentence(CALLS + ", all that are left answer()");
        GrowDecoder x = fullRow();
        for (int call = 92; call <= 512; call++) {
            Check.due("call " + call + ", answer()", x.answer(), (1L << 29) - 1);
        }
    }

    private static void mostCallsOfManyKinds() {
        Check.sentence(CALLS + ", of many kinds");
        GrowDecoder x = Check.points("ib");
        Check.edges(x, 0, 1, 2);
        // 3 calls till here; 50 times 10 calls are 503, and 9 more make 512.
        for (int i = 0; i < 50; i++) {
            manyKinds(x);
        }
        Check.due("call 504, fire(0, true)", x.fire(0, true), true);
        Check.due("call 505, grow()", Check.grow(x), 2);
        Check.due("call 506, believe(40)", x.believe(40), 1);
        Check.due("call 507, sent(0, 2)", Check.sent(x, 0, 2), -998);
        Check.due("call 508, guess()", x.guess(), 1);
        Check.due("call 509, total(2)", x.total(2), 1);
        Check.due("call 510, point(false)", x.point(false), 2);
        Check.due("call 511, edge(2, 0, 20)", x.edge(2, 0, 20), 1);
        Check.due("call 512, answer()", x.answer(), 1);
    }

    private static void manyKinds(GrowDecoder x) {
        Check.due("fire(0, true)", x.fire(0, true), true);
        Check.due("grow()", Check.grow(x), 2);
        Check.due("cluster(1)", x.cluster(1), 0);
        Check.due("size(0)", x.size(0), 2);
        Check.due("grown(1)", x.grown(1), 1);
        Check.due("believe(7)", x.believe(7), 1);
        Check.due("chosen()", x.chosen(), 1);
        Check.due("syndrome(1)", x.syndrome(1), 1);
        Check.due("edge(0, 0, 1)", x.edge(0, 0, 1), -1);
        Check.due("fire(0, false)", x.fire(0, false), true);
    }

    private static void mostPoints() {
        Check.sentence("Terms: POINTS 0, 1, .. (30 at most)");
        GrowDecoder x = new GrowDecoder();
        for (int p = 0; p < 30; p++) {
            Check.due("point " + p, x.point(p == 0), p);
        }
        Check.due("one more", x.point(false), -1);
        Check.due("the last one is fired", x.fire(29, true), true);
        Check.due("the last one is an end", x.edge(29, 0, 1), 0);
        Check.due("syndrome(1)", x.syndrome(1), 1 << 29);
        Check.due("grow()", Check.grow(x), 1);
        Check.due("cluster(29)", x.cluster(29), 0);
        Check.due("total(3)", x.total(3), 29);
        Check.due("answer()", x.answer(), 1);
    }

    private static void allPointsInner() {
        Check.sentence("Terms: each an INNER one (all of them)");
        GrowDecoder x = Check.points(THIRTY_INNER);
        for (int p = 0; p < 30; p++) {
            Check.due("fire(" + p + ", true)", x.fire(p, true), true);
        }
        Check.due("total(2)", x.total(2), (1 << 30) - 1);
        for (int p = 0; p < 30; p += 2) {
            x.edge(p, p + 1, 1);
        }
        Check.due("syndrome of all", x.syndrome((1L << 15) - 1), (1 << 30) - 1);
        Check.due("grow()", Check.grow(x), 1);
        Check.due("total(3)", x.total(3), 15);
        grown(x, (1L << 15) - 1, (1L << 15) - 1);
        Check.due("answer()", x.answer(), (1L << 15) - 1);
        Check.due("believe(1)", x.believe(1), 1);
    }

    private static void allPointsBoundaries() {
        Check.sentence("Terms: or a BOUNDARY (all of them)");
        GrowDecoder x = new GrowDecoder();
        for (int p = 0; p < 30; p++) {
            Check.due("point(true)", x.point(true), p);
            Check.due("fire(" + p + ", true)", x.fire(p, true), false);
            Check.due("edge(0, " + p + ", 1)", x.edge(0, p, 1), -1);
        }
        Check.due("grow()", Check.grow(x), 0);
        Check.due("total(3)", x.total(3), 30);
        Check.due("answer()", x.answer(), 0);
        Check.due("believe(1)", x.believe(1), 1);
    }

    private static void mostEdges() {
        Check.sentence("Terms: EDGES 0, 1, .. (60 at most)");
        GrowDecoder x = Check.points("fb");
        for (int e = 0; e < 60; e++) {
            Check.due("edge " + e, x.edge(0, 1, e < 59 ? 3 : 1), e);
        }
        Check.due("one more", x.edge(0, 1, 1), -1);
        Check.due("grow()", Check.grow(x), 1);
        Check.due("size(59)", x.size(59), 1);
        grown(x, 1L << 59, 1L << 59);
        Check.due("syndrome of the last", x.syndrome(1L << 59), 1);
        Check.due("answer()", x.answer(), 1L << 59);
        Check.due("believe(1)", x.believe(1), 1);
        Check.due("sent(59, 0)", Check.sent(x, 59, 0), -3);
        Check.due("guess()", x.guess(), 1L << 59);
    }

    private static void differentPoints() {
        Check.sentence("Terms: EDGES between two different POINTS");
        GrowDecoder x = Check.points("ib");
        Check.due("edge(0, 0, 1)", x.edge(0, 0, 1), -1);
        Check.due("edge(1, 1, 1)", x.edge(1, 1, 1), -1);
        Check.due("edge(1, 0, 1)", x.edge(1, 0, 1), 0);
        Check.due("the same two again", x.edge(1, 0, 1), 1);
    }

    private static void notBothBoundaries() {
        Check.sentence("Terms: EDGES not both BOUNDARIES");
        GrowDecoder x = Check.points("bib");
        Check.due("edge(0, 2, 1)", x.edge(0, 2, 1), -1);
        Check.due("edge(2, 0, 1)", x.edge(2, 0, 1), -1);
        Check.due("one of them", x.edge(0, 1, 1), 0);
        Check.due("one of them behind", x.edge(1, 2, 1), 1);
    }

    private static void leastLength() {
        Check.sentence("Terms: LENGTH 1 ..");
        GrowDecoder x = Check.points("fb");
        Check.due("edge(0, 1, 0)", x.edge(0, 1, 0), -1);
        Check.due("edge(0, 1, -1)", x.edge(0, 1, -1), -1);
        Check.due("edge(0, 1, MIN)", x.edge(0, 1, Integer.MIN_VALUE), -1);
        Check.due("edge(0, 1, 1)", x.edge(0, 1, 1), 0);
        Check.due("grow()", Check.grow(x), 1);
        sizes(x, 1);
        Check.due("believe(1)", x.believe(1), 1);
        Check.due("sent(0, 2)", Check.sent(x, 0, 2), -999);
    }

    private static void greatestLength() {
        Check.sentence("Terms: LENGTH .. 20");
        GrowDecoder x = Check.points("fb");
        Check.due("edge(0, 1, 21)", x.edge(0, 1, 21), -1);
        Check.due("edge(0, 1, MAX)", x.edge(0, 1, Integer.MAX_VALUE), -1);
        Check.due("edge(0, 1, 20)", x.edge(0, 1, 20), 0);
        Check.due("grow()", Check.grow(x), 20);
        sizes(x, 20);
        Check.due("believe(1)", x.believe(1), 1);
        Check.due("sent(0, 2)", Check.sent(x, 0, 2), -980);
    }

    private static void firedAreInner() {
        Check.sentence("Terms: FIRED are INNER POINTS");
        GrowDecoder x = Check.points("bi");
        Check.due("fire(0, true)", x.fire(0, true), false);
        Check.due("total(2)", x.total(2), 0);
        Check.due("fire(1, true)", x.fire(1, true), true);
        Check.due("total(2)", x.total(2), 2);
    }

    private static void syndromeByOddNumbers() {
        Check.sentence("Terms: SYNDROME, an odd number of them ends");
        GrowDecoder x = Check.points("ib");
        Check.edges(x, 0, 1, 1, 1, 0, 1, 0, 1, 1, 1, 0, 1);
        for (int e = 0; e <= 4; e++) {
            Check.due(e + " edges", x.syndrome((1L << e) - 1), e % 2);
        }
    }

    private static void syndromeWithoutBoundaries() {
        Check.sentence("Terms: SYNDROME, the INNER POINTS");
        GrowDecoder x = Check.points("bibi");
        Check.edges(x, 0, 1, 1, 3, 2, 1, 1, 2, 1);
        Check.due("boundary first", x.syndrome(1), 2);
        Check.due("boundary second", x.syndrome(2), 8);
        Check.due("from boundary to boundary", x.syndrome(5), 0);
    }

    private static void grownFromTheBeginning() {
        Check.sentence("Terms: at first each POINT alone is a CLUSTER, each EDGE has SIZE 0");
        GrowDecoder x = Check.points("fib");
        Check.edges(x, 0, 1, 3, 1, 2, 2);
        Check.due("grow()", Check.grow(x), 5);
        clusters(x, 0, 0, 0);
        Check.due("grow() again", Check.grow(x), 5);
        sizes(x, 3, 2);
        x.fire(0, false);
        Check.due("grow(), nothing fired", Check.grow(x), 0);
        clusters(x, 0, 1, 2);
        sizes(x, 0, 0);
        Check.due("total(3)", x.total(3), 3);
    }

    // All neighbours of the row are joined in round 1; round 2 comes only if that is odd.
    private static void oddByNumber() {
        Check.sentence("Terms: ODD, an odd number of FIRED POINTS");
        String[] rows = {"iiii", "fiii", "ffii", "fffi", "ffff"};
        Object[] rounds = {0, Check.ARITHMETIC, 1, Check.ARITHMETIC, 1};
        for (int i = 0; i < rows.length; i++) {
            GrowDecoder x = Check.points(rows[i]);
            Check.edges(x, 0, 1, 1, 1, 2, 1, 2, 3, 1);
            Check.due(rows[i] + ": grow()", Check.grow(x), rounds[i]);
        }
    }

    private static void notOddWithABoundary() {
        Check.sentence("Terms: ODD, and no BOUNDARY");
        GrowDecoder x = Check.points("fbi");
        Check.edges(x, 0, 1, 1, 0, 2, 5);
        Check.due("one fired: grow()", Check.grow(x), 1);
        sizes(x, 1, 1);
        x = Check.points("fffb");
        Check.edges(x, 0, 1, 2, 1, 2, 2, 2, 3, 1);
        Check.due("three fired: grow()", Check.grow(x), 1);
        x = Check.points("bi");
        Check.edges(x, 0, 1, 1);
        Check.due("a boundary alone: grow()", Check.grow(x), 0);
    }

    private static void oneForEachOddEnd() {
        Check.sentence("Terms: an EDGE gets 1 for each of its ends whose CLUSTER is ODD");
        GrowDecoder x = Check.points("ffiib");
        Check.edges(x, 0, 1, 2, 1, 2, 9, 2, 3, 9, 4, 0, 9);
        Check.due("grow()", Check.grow(x), 1);
        sizes(x, 2, 1, 0, 1);
        x = Check.points("fib");
        Check.edges(x, 0, 1, 1, 1, 0, 9, 1, 2, 2);
        Check.due("both ends of one cluster: grow()", Check.grow(x), 3);
        sizes(x, 1, 5, 2);
    }

    private static void nothingForAFullEdge() {
        Check.sentence("Terms: each EDGE whose SIZE is less than its LENGTH");
        GrowDecoder x = Check.points("fib");
        Check.edges(x, 0, 1, 1, 1, 2, 20);
        Check.due("grow()", Check.grow(x), 21);
        sizes(x, 1, 20);
    }

    private static void onceMoreBelowTheLength() {
        Check.sentence("Terms: less than its LENGTH (by 1, and it gets 2)");
        GrowDecoder x = Check.points("ff");
        Check.edges(x, 0, 1, 19);
        Check.due("grow()", Check.grow(x), 10);
        sizes(x, 20);
        x = Check.points("ff");
        Check.edges(x, 0, 1, 1);
        Check.due("length 1: grow()", Check.grow(x), 1);
        sizes(x, 2);
    }

    // By edge 0 the point 1 comes to an odd cluster within round 1; edge 1, behind it in order,
    // gets nothing for that in this round, and edge 2 nothing for what edge 0 made even.
    private static void byTheClustersAsTheyAreThen() {
        Check.sentence("Terms: all by the CLUSTERS as they are then");
        GrowDecoder x = Check.points("fib");
        Check.edges(x, 0, 1, 1, 1, 2, 1);
        Check.due("odd later: grow()", Check.grow(x), 2);
        sizes(x, 1, 1);
        x = Check.points("ffi");
        Check.edges(x, 0, 1, 1, 1, 2, 5);
        Check.due("even later: grow()", Check.grow(x), 1);
        sizes(x, 2, 1);
    }

    private static void branchesInOrder() {
        Check.sentence("Terms: in order, each EDGE .. makes these one");
        GrowDecoder x = Check.points("fff");
        x.point(false);
        x.fire(3, true);
        Check.edges(x, 2, 0, 1, 1, 2, 1, 0, 1, 1, 3, 1, 2, 3, 0, 1);
        Check.due("grow()", Check.grow(x), 1);
        grown(x, 11, 9);
    }

    private static void comeToTheLengthOrAbove() {
        Check.sentence("Terms: come to its LENGTH or above it");
        GrowDecoder x = Check.points("ff");
        Check.edges(x, 0, 1, 4);
        Check.due("to it: grow()", Check.grow(x), 2);
        sizes(x, 4);
        grown(x, 1, 1);
        x = Check.points("ff");
        Check.edges(x, 0, 1, 3);
        Check.due("above it: grow()", Check.grow(x), 2);
        sizes(x, 4);
        grown(x, 1, 1);
    }

    private static void endsOfTwoClusters() {
        Check.sentence("Terms: whose ends are of two CLUSTERS");
        GrowDecoder x = Check.points("fib");
        Check.edges(x, 0, 1, 1, 0, 1, 1, 1, 0, 2, 1, 2, 4);
        Check.due("grow()", Check.grow(x), 5);
        grown(x, 9, 9);
        sizes(x, 1, 1, 3, 4);
        Check.due("total(3)", x.total(3), 1);
    }

    private static void noRoundWithoutAnOddCluster() {
        Check.sentence("Terms: ROUNDS as long as a CLUSTER is ODD (none is)");
        GrowDecoder x = Check.points("iib");
        Check.edges(x, 0, 1, 1, 1, 2, 1);
        Check.due("grow()", Check.grow(x), 0);
        Check.due("total(4)", x.total(4), 0);
        Check.due("no point: grow()", Check.grow(new GrowDecoder()), 0);
    }

    private static void roundsAsLongAsOneIsOdd() {
        Check.sentence("Terms: ROUNDS as long as a CLUSTER is ODD (one of several)");
        GrowDecoder x = Check.points("fffb");
        Check.edges(x, 0, 1, 2, 2, 3, 20);
        Check.due("grow()", Check.grow(x), 20);
        sizes(x, 2, 20);
        clusters(x, 0, 0, 2, 2);
    }

    private static void stuckAtOnce() {
        Check.sentence("Terms: STUCK, no EDGE got anything (this ROUND counts)");
        GrowDecoder x = Check.points("fib");
        Check.edges(x, 1, 2, 1);
        Check.due("grow()", Check.grow(x), Check.ARITHMETIC);
        Check.due("total(4)", x.total(4), 1);
        sizes(x, 0);
    }

    private static void stuckLater() {
        Check.sentence("Terms: STUCK, behind ROUNDS in which an EDGE got something");
        GrowDecoder x = Check.points("fi");
        Check.edges(x, 0, 1, 20);
        Check.due("grow()", Check.grow(x), Check.ARITHMETIC);
        Check.due("total(4)", x.total(4), 21);
        Check.due("total(3)", x.total(3), 1);
        sizes(x, 20);
    }

    // In the first the edges inside go on, in the second those of the other cluster.
    private static void notStuckWhileAnEdgeGets() {
        Check.sentence("Terms: STUCK, if in a ROUND no EDGE got anything (some EDGE did)");
        GrowDecoder x = Check.points("fi");
        Check.edges(x, 0, 1, 1, 0, 1, 4);
        Check.due("inside: grow()", Check.grow(x), Check.ARITHMETIC);
        Check.due("inside: total(4)", x.total(4), 4);
        sizes(x, 1, 5);
        x = Check.points("ffb");
        Check.edges(x, 1, 2, 3);
        Check.due("elsewhere: grow()", Check.grow(x), Check.ARITHMETIC);
        Check.due("elsewhere: total(4)", x.total(4), 4);
        sizes(x, 3);
        grown(x, 1, 0);
    }

    private static void rootIsTheLeastBoundary() {
        Check.sentence("Terms: ROOT, its least BOUNDARY");
        GrowDecoder x = Check.points("fbb");
        Check.edges(x, 0, 2, 1, 0, 1, 1);
        Check.due("of two: grow()", Check.grow(x), 1);
        grown(x, 3, 2);
        x = Check.points("iifb");
        Check.edges(x, 2, 3, 2, 0, 2, 1, 1, 2, 2);
        Check.due("behind lesser points: grow()", Check.grow(x), 2);
        grown(x, 7, 1);
        clusters(x, 0, 0, 0, 0);
    }

    private static void rootWithoutABoundary() {
        Check.sentence("Terms: ROOT, its least POINT without one");
        GrowDecoder x = Check.points("iff");
        Check.edges(x, 0, 1, 1, 0, 2, 1);
        Check.due("grow()", Check.grow(x), 1);
        grown(x, 3, 3);
        clusters(x, 0, 0, 0);
    }

    private static void fixByOddNumbers() {
        Check.sentence("Terms: THE FIX, an odd number of FIRED POINTS");
        GrowDecoder x = Check.points("fffffb");
        Check.edges(x, 0, 1, 2, 1, 2, 2, 2, 3, 2, 3, 4, 2, 4, 5, 1);
        Check.due("parted are 1 to 5: grow()", Check.grow(x), 1);
        grown(x, 31, 21);
        x = Check.points("fifb");
        Check.edges(x, 0, 1, 1, 1, 2, 1, 2, 3, 1);
        Check.due("parted are 1, 1 and 2: grow()", Check.grow(x), 1);
        grown(x, 7, 3);
        x = Check.points("fbi");
        Check.edges(x, 0, 1, 1, 0, 2, 1);
        Check.due("parted is none: grow()", Check.grow(x), 1);
        grown(x, 3, 1);
    }
}
