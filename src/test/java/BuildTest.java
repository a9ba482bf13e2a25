/** Promises 1 to 4, 14, and of 15 what 0 to 2: points, edges, what is fired, syndromes. */
public final class BuildTest {
    private static final int[] STRANGE = {-1, -2, 30, 31, 32, 60, 64, Integer.MAX_VALUE, Integer.MIN_VALUE};

    public static void main(String[] args) {
        newObject();
        pointsComeTillThirty();
        edgesAreNumbered();
        wrongEdgesAreRefused();
        edgesComeTillSixty();
        firing();
        syndromes();
        syndromesOfEdgesThatAreNot();
        totals();
        Check.done();
    }

    private static void newObject() {
        GrowDecoder x = new GrowDecoder();
        for (int what = 0; what < 5; what++) {
            Check.due("new: total(" + what + ")", x.total(what), 0);
        }
        Check.due("new: edge(0, 1, 1)", x.edge(0, 1, 1), -1);
        Check.due("new: fire(0, true)", x.fire(0, true), false);
        Check.due("new: syndrome(0)", x.syndrome(0), 0);
        Check.due("new: syndrome(1)", x.syndrome(1), -1);
        x.point(false);
        Check.due("objects are apart", new GrowDecoder().total(0), 0);
    }

    private static void pointsComeTillThirty() {
        GrowDecoder x = new GrowDecoder();
        for (int p = 0; p < 30; p++) {
            Check.due("point " + p, x.point(p % 3 == 0), p);
            Check.due("points so far", x.total(0), p + 1);
        }
        Check.due("point 30, a boundary", x.point(true), -1);
        Check.due("point 30, an inner one", x.point(false), -1);
        Check.due("points", x.total(0), 30);
        Check.due("the last point is fired", x.fire(29, true), true);
        Check.due("fired points", x.total(2), 1 << 29);
    }

    private static void edgesAreNumbered() {
        GrowDecoder x = Check.points("iib");
        Check.due("least length", x.edge(0, 1, 1), 0);
        Check.due("greatest length, the same ends", x.edge(1, 0, 20), 1);
        Check.due("boundary second", x.edge(0, 2, 5), 2);
        Check.due("boundary first", x.edge(2, 1, 5), 3);
        Check.due("edges", x.total(1), 4);
    }

    private static void wrongEdgesAreRefused() {
        GrowDecoder x = Check.points("iibb");
        Check.due("two boundaries", x.edge(2, 3, 1), -1);
        Check.due("the same point", x.edge(1, 1, 1), -1);
        Check.due("the same boundary", x.edge(2, 2, 1), -1);
        Check.due("length 0", x.edge(0, 1, 0), -1);
        Check.due("length 21", x.edge(0, 1, 21), -1);
        Check.due("point 4", x.edge(0, 4, 1), -1);
        for (int strange : STRANGE) {
            Check.due("edge(" + strange + ", 0, 1)", x.edge(strange, 0, 1), -1);
            Check.due("edge(0, " + strange + ", 1)", x.edge(0, strange, 1), -1);
            Check.due("edge(0, 1, " + strange + ")", x.edge(0, 1, strange), -1);
        }
        Check.due("edges", x.total(1), 0);
        Check.due("the first edge after the refused ones", x.edge(0, 1, 1), 0);
    }

    private static void edgesComeTillSixty() {
        GrowDecoder x = Check.points("iib");
        for (int e = 0; e < 60; e++) {
            Check.due("edge " + e, x.edge(e % 2, 2, 1 + e % 20), e);
        }
        Check.due("edge 60", x.edge(0, 1, 1), -1);
        Check.due("edges", x.total(1), 60);
    }

    private static void firing() {
        GrowDecoder x = Check.points("iib");
        Check.due("not fired already", x.fire(0, false), false);
        Check.due("fire(0, true)", x.fire(0, true), true);
        Check.due("fire(0, true) again", x.fire(0, true), false);
        Check.due("fire(1, true)", x.fire(1, true), true);
        Check.due("both", x.total(2), 3);
        Check.due("fire(0, false)", x.fire(0, false), true);
        Check.due("fire(0, false) again", x.fire(0, false), false);
        Check.due("one", x.total(2), 2);
        Check.due("a boundary", x.fire(2, true), false);
        Check.due("a boundary, not", x.fire(2, false), false);
        Check.due("point 3", x.fire(3, true), false);
        for (int strange : STRANGE) {
            Check.due("fire(" + strange + ", true)", x.fire(strange, true), false);
            Check.due("fire(" + strange + ", false)", x.fire(strange, false), false);
        }
        Check.due("one still", x.total(2), 2);
    }

    private static void syndromes() {
        GrowDecoder x = Check.points("ibii");
        Check.edges(x, 0, 1, 1, 0, 2, 2, 2, 3, 3, 3, 0, 4, 2, 0, 5);
        Check.due("no edge", x.syndrome(0), 0);
        Check.due("to a boundary", x.syndrome(1), 1);
        Check.due("between inner ones", x.syndrome(2), 5);
        Check.due("a path", x.syndrome(6), 9);
        Check.due("a ring", x.syndrome(14), 0);
        Check.due("the same ends twice", x.syndrome(18), 0);
        Check.due("all", x.syndrome(31), 4);
        x.fire(3, true);
        Check.due("whatever is fired", x.syndrome(2), 5);
    }

    private static void syndromesOfEdgesThatAreNot() {
        GrowDecoder x = Check.points("ii");
        Check.edges(x, 0, 1, 1);
        for (int e = 1; e < 64; e++) {
            Check.due("edge " + e + " of one", x.syndrome(1L << e), -1);
            Check.due("edges 0 and " + e + " of one", x.syndrome(1L << e | 1), -1);
        }
        for (int e = 1; e < 60; e++) {
            x.edge(0, 1, 1);
        }
        Check.due("edge 59 of sixty", x.syndrome(1L << 59), 3);
        Check.due("all sixty", x.syndrome((1L << 60) - 1), 0);
        for (int e = 60; e < 64; e++) {
            Check.due("edge " + e + " of sixty", x.syndrome(1L << e), -1);
        }
        Check.due("all bits", x.syndrome(-1L), -1);
        Check.due("the highest point", highestPoint(), 1 << 29);
    }

    private static int highestPoint() {
        GrowDecoder x = Check.points("biiiiiiiiiiiiiiiiiiiiiiiiiiiii");
        x.edge(29, 0, 20);
        return x.syndrome(1);
    }

    private static void totals() {
        GrowDecoder x = Check.points("iffb");
        Check.edges(x, 0, 1, 1, 2, 3, 1);
        Check.due("total(0)", x.total(0), 4);
        Check.due("total(1)", x.total(1), 2);
        Check.due("total(2)", x.total(2), 6);
        Check.due("total(5)", x.total(5), -1);
        for (int strange : STRANGE) {
            Check.due("total(" + strange + ")", x.total(strange), -1);
        }
    }
}
