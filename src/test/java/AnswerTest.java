/** Promises 12 and 13: what is chosen in order, and the answer by it. */
public final class AnswerTest {
    public static void main(String[] args) {
        nothingToAnswer();
        noAnswer();
        byLength();
        firstOfSeveral();
        byBelief();
        firstOfSeveralByBelief();
        counts();
        largest();
        Check.done();
    }

    private static void solved(String where, GrowDecoder x, long answer, int chosen) {
        Check.due(where + ": answer()", x.answer(), answer);
        Check.due(where + ": chosen()", x.chosen(), chosen);
        Check.due(where + ": answer() again", x.answer(), answer);
    }

    private static void nothingToAnswer() {
        solved("empty", new GrowDecoder(), 0, 0);
        GrowDecoder x = Check.points("iib");
        solved("no edge", x, 0, 0);
        Check.edges(x, 0, 1, 1, 1, 2, 1);
        solved("nothing fired", x, 0, 2);
    }

    private static void noAnswer() {
        solved("no edge, fired", Check.points("f"), -1, 0);
        GrowDecoder x = Check.points("fiib");
        Check.edges(x, 0, 1, 1, 2, 3, 1);
        solved("an odd part", x, -1, 2);
        x.fire(1, true);
        solved("an even part", x, 1, 2);
        x.fire(2, true);
        solved("a part with a boundary", x, 3, 2);
    }

    private static void byLength() {
        GrowDecoder x = Check.points("ffb");
        Check.edges(x, 0, 1, 3, 0, 1, 1, 0, 2, 2);
        solved("by length", x, 2, 2);
        x.edge(1, 2, 1);
        solved("both by the short way", x, 2, 2);
        x.fire(1, false);
        solved("round the corner", x, 10, 2);
    }

    private static void firstOfSeveral() {
        GrowDecoder x = Check.points("fbf");
        Check.edges(x, 2, 0, 2, 0, 2, 2, 0, 1, 2, 2, 1, 2);
        solved("first of several", x, 1, 2);
        x.fire(2, false);
        solved("first two of several", x, 4, 2);
    }

    // By length 2, 0, 1; behind one turn the beliefs are 0, 1, 3.
    private static void byBelief() {
        GrowDecoder x = Check.points("fib");
        Check.edges(x, 0, 1, 2, 0, 2, 3, 1, 2, 1);
        solved("before", x, 5, 2);
        Check.due("believe(1)", x.believe(1), 0);
        Check.due("belief 0", Check.sent(x, 0, 2), 0);
        Check.due("belief 1", Check.sent(x, 1, 2), 1);
        Check.due("belief 2", Check.sent(x, 2, 2), 3);
        solved("by belief", x, 2, 2);
        x.fire(0, true);
        x.edge(0, 0, 1);
        x.believe(41);
        solved("refused calls", x, 2, 2);
        x.point(false);
        solved("a point came", x, 5, 2);
        x.believe(1);
        solved("by belief anew", x, 2, 2);
        x.edge(0, 2, 20);
        solved("an edge came", x, 5, 2);
        x.fire(0, false);
        x.fire(0, true);
        x.believe(1);
        x.fire(1, true);
        solved("one was fired", x, 1, 2);
        x.fire(1, false);
        solved("one was not", x, 5, 2);
    }

    private static void firstOfSeveralByBelief() {
        GrowDecoder x = Check.points("ff");
        Check.edges(x, 1, 0, 2, 0, 1, 2);
        x.believe(3);
        Check.due("alike", Check.sent(x, 0, 2), Check.sent(x, 1, 2));
        solved("first by belief", x, 1, 1);
    }

    private static void counts() {
        GrowDecoder x = Check.points("iiib");
        Check.edges(x, 0, 1, 1, 1, 2, 1, 2, 0, 1);
        solved("ring", x, 0, 2);
        x.edge(0, 3, 1);
        solved("ring and boundary", x, 0, 3);
        x = Check.points("ibib");
        Check.edges(x, 0, 1, 1, 0, 2, 1, 2, 3, 1);
        solved("from boundary to boundary", x, 0, 2);
    }

    private static void largest() {
        GrowDecoder x = Check.points("fiiiiiiiiiiiiiiiiiiiiiiiiiiiif");
        for (int p = 0; p < 29; p++) {
            x.edge(p, p + 1, 20);
        }
        solved("a path of thirty", x, (1L << 29) - 1, 29);
        for (int p = 0; p < 29; p++) {
            x.edge(p + 1, p, 19);
        }
        solved("a shorter path beside it", x, (1L << 58) - (1L << 29), 29);
        x.edge(29, 0, 18);
        x.edge(0, 29, 17);
        solved("sixty edges", x, 1L << 59, 29);
    }
}
