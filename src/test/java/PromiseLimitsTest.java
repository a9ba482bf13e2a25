/** "Promise 1" to "Promise 15": a test of its own for each NONE, false, 0 and exception they name. */
public final class PromiseLimitsTest {
    private static final int LOW = Integer.MIN_VALUE;
    private static final int HIGH = Integer.MAX_VALUE;
    private static final int[] NO_POINT = {-1, 30, 31, 32, 33, 64, -32, LOW, HIGH};
    private static final int[] NO_EDGE = {-1, 60, 61, 63, 64, 65, -64, LOW, HIGH};
    private static final String[] CHANGES = {"a POINT came", "an EDGE came", "one was FIRED", "or not"};

    public static void main(String[] args) {
        newObjectHasNoPoints();
        newObjectsAreApart();
        pointNoneIfThirty();
        edgeNoneIfNoSuchPoints();
        edgeNoneIfBothBoundaries();
        edgeNoneIfTheSame();
        edgeNoneIfNoSuchLength();
        edgeNoneIfSixty();
        edgeRefusedChangesNothing();
        fireFalseIfNoneSuch();
        fireFalseIfABoundary();
        fireFalseIfSoAlready();
        fireRefusedChangesNothing();
        growWithoutRounds();
        growThrowsIfStuck();
        growStuckCanBeAsked();
        growStuckHasNoFix();
        growAfterStuck();
        clusterNoneIfNoneSuch();
        clusterNoneIfItCameLater();
        clusterNoneIfNothingGrown();
        clusterOfTheLastGrowth();
        sizeNoneIfNoneSuch();
        sizeNoneIfItCameLater();
        sizeNoneIfNothingGrown();
        grownNothing();
        grownNoneForAnother();
        grownLast();
        believeLeastTurns();
        believeMostTurns();
        believeNotSettled();
        believeNoneForAnother();
        believeRefusedChangesNothing();
        believeFromTheBeginning();
        sentSides();
        sentOfABoundary();
        sentStateAtFirst();
        sentStateAfterAChange();
        sentNoSuchEdge();
        sentNoSuchSide();
        sentStateIsAskedFirst();
        sentThrowingChangesNothing();
        sentAfterRefusedCalls();
        guessNothingAtFirst();
        guessNothingAfterAChange();
        guessOfTheLastTurn();
        answerNone();
        answerOfNothing();
        chosenNone();
        chosenMost();
        syndromeOfNothing();
        syndromeNone();
        syndromeNoneBeyondSixty();
        syndromeOfAll();
        totalsOfNothing();
        totalsOfMost();
        totalsGrownLast();
        totalsNoneForAnother();
        askingChangesNothing();
        Check.done();
    }

    /** Grown to its boundary, and believed to its end in the second turn. */
    private static GrowDecoder used() {
        GrowDecoder x = Check.points("fib");
        Check.edges(x, 0, 1, 1, 1, 2, 1);
        Check.grow(x);
        x.believe(40);
        return x;
    }

    private static void unchanged(GrowDecoder x, String before) {
        Check.due("all that can be asked behind it", Check.all(x), before);
    }

    private static void newObjectHasNoPoints() {
        Check.sentence("Promise 1: No POINTS");
        GrowDecoder x = new GrowDecoder();
        Check.due("total(0)", x.total(0), 0);
        Check.due("fire(0, true)", x.fire(0, true), false);
        Check.due("edge(0, 1, 1)", x.edge(0, 1, 1), -1);
        Check.due("cluster(0)", x.cluster(0), -1);
        Check.due("point(true)", x.point(true), 0);
        Check.due("total(0)", x.total(0), 1);
    }

    private static void newObjectsAreApart() {
        Check.sentence("Promise 1: A new object");
        String fresh = Check.all(new GrowDecoder());
        GrowDecoder x = used();
        Check.due("another one behind it", Check.all(new GrowDecoder()), fresh);
        Check.due("the first one", x.total(0), 3);
    }

    private static void pointNoneIfThirty() {
        Check.sentence("Promise 2: NONE if there are 30");
        GrowDecoder x = new GrowDecoder();
        for (int p = 0; p < 30; p++) {
            Check.due("point " + p, x.point(p % 2 == 0), p);
        }
        x.edge(28, 29, 1);
        x.fire(29, true);
        Check.grow(x);
        x.believe(1);
        for (int i = 0; i < 3; i++) {
            Check.due("one more, a boundary", x.point(true), -1);
            Check.due("one more, inner", x.point(false), -1);
        }
        Check.due("total(0)", x.total(0), 30);
        Check.due("what was believed holds: guess()", x.guess(), 1);
        Check.due("what was grown holds: grown(1)", x.grown(1), 1);
        Check.due("point 28 is a boundary still", x.fire(28, true), false);
        Check.due("no point 30", x.fire(30, true), false);
    }

    private static void edgeNoneIfNoSuchPoints() {
        Check.sentence("Promise 3: NONE if there are no such POINTS");
        GrowDecoder x = Check.points("iib");
        Check.due("edge(0, 3, 1)", x.edge(0, 3, 1), -1);
        Check.due("edge(3, 0, 1)", x.edge(3, 0, 1), -1);
        Check.due("edge(3, 4, 1)", x.edge(3, 4, 1), -1);
        for (int p : NO_POINT) {
            Check.due("edge(0, " + p + ", 1)", x.edge(0, p, 1), -1);
            Check.due("edge(" + p + ", 0, 1)", x.edge(p, 0, 1), -1);
            Check.due("edge(" + p + ", " + p + ", 1)", x.edge(p, p, 1), -1);
        }
        Check.due("total(1)", x.total(1), 0);
        Check.due("edge(0, 2, 1)", x.edge(0, 2, 1), 0);
        x.point(false);
        Check.due("edge(0, 3, 1), since it came", x.edge(0, 3, 1), 1);
    }

    private static void edgeNoneIfBothBoundaries() {
        Check.sentence("Promise 3: NONE if (both BOUNDARIES)");
        GrowDecoder x = Check.points("bbi");
        Check.due("edge(0, 1, 1)", x.edge(0, 1, 1), -1);
        Check.due("edge(1, 0, 1)", x.edge(1, 0, 1), -1);
        Check.due("total(1)", x.total(1), 0);
        Check.due("edge(2, 1, 1)", x.edge(2, 1, 1), 0);
        Check.due("edge(0, 2, 1)", x.edge(0, 2, 1), 1);
    }

    private static void edgeNoneIfTheSame() {
        Check.sentence("Promise 3: NONE if (the same one)");
        GrowDecoder x = Check.points("ifb");
        for (int p = 0; p < 3; p++) {
            Check.due("edge(" + p + ", " + p + ", 1)", x.edge(p, p, 1), -1);
        }
        Check.due("total(1)", x.total(1), 0);
    }

    private static void edgeNoneIfNoSuchLength() {
        Check.sentence("Promise 3: NONE if there is no such LENGTH");
        GrowDecoder x = Check.points("ib");
        for (int length : new int[] {0, -1, 21, 22, 256 + 1, LOW, LOW + 1, HIGH}) {
            Check.due("edge(0, 1, " + length + ")", x.edge(0, 1, length), -1);
        }
        Check.due("total(1)", x.total(1), 0);
        for (int length = 1; length <= 20; length++) {
            Check.due("edge(0, 1, " + length + ")", x.edge(0, 1, length), length - 1);
        }
    }

    private static void edgeNoneIfSixty() {
        Check.sentence("Promise 3: NONE if there are 60");
        GrowDecoder x = Check.points("fb");
        for (int e = 0; e < 60; e++) {
            Check.due("edge " + e, x.edge(0, 1, 20 - e % 10), e);
        }
        x.believe(1);
        for (int i = 0; i < 3; i++) {
            Check.due("one more", x.edge(0, 1, 1), -1);
            Check.due("one more, turned", x.edge(1, 0, 20), -1);
        }
        Check.due("total(1)", x.total(1), 60);
        Check.due("what was believed holds: sent(0, 0)", Check.sent(x, 0, 0), -11);
        Check.due("answer()", x.answer(), 1L << 9);
        Check.due("syndrome of one more", x.syndrome(1L << 60), -1);
    }

    private static void edgeRefusedChangesNothing() {
        Check.sentence("Promise 3: NONE (nothing comes)");
        GrowDecoder x = used();
        x.point(true);
        x.believe(40);
        String before = Check.all(x);
        Check.due("no such point", x.edge(0, 4, 1), -1);
        Check.due("the same one", x.edge(0, 0, 1), -1);
        Check.due("both boundaries", x.edge(2, 3, 1), -1);
        Check.due("length 0", x.edge(0, 1, 0), -1);
        Check.due("length 21", x.edge(0, 1, 21), -1);
        unchanged(x, before);
    }

    private static void fireFalseIfNoneSuch() {
        Check.sentence("Promise 4: false if there is none such");
        GrowDecoder x = Check.points("ii");
        Check.due("fire(2, true)", x.fire(2, true), false);
        Check.due("fire(2, false)", x.fire(2, false), false);
        for (int p : NO_POINT) {
            Check.due("fire(" + p + ", true)", x.fire(p, true), false);
            Check.due("fire(" + p + ", false)", x.fire(p, false), false);
        }
        Check.due("total(2)", x.total(2), 0);
        x.point(false);
        Check.due("fire(2, true), since it came", x.fire(2, true), true);
    }

    private static void fireFalseIfABoundary() {
        Check.sentence("Promise 4: An INNER POINT, false if there is none such");
        GrowDecoder x = Check.points("bib");
        Check.due("fire(0, true)", x.fire(0, true), false);
        Check.due("fire(0, false)", x.fire(0, false), false);
        Check.due("fire(2, true)", x.fire(2, true), false);
        Check.due("total(2)", x.total(2), 0);
    }

    private static void fireFalseIfSoAlready() {
        Check.sentence("Promise 4: false if it is so already");
        GrowDecoder x = Check.points("i");
        Check.due("not fired at first", x.fire(0, false), false);
        Check.due("fire(0, true)", x.fire(0, true), true);
        Check.due("fire(0, true) again", x.fire(0, true), false);
        Check.due("total(2)", x.total(2), 1);
        Check.due("fire(0, false)", x.fire(0, false), true);
        Check.due("fire(0, false) again", x.fire(0, false), false);
        Check.due("total(2)", x.total(2), 0);
        Check.due("fire(0, true) once more", x.fire(0, true), true);
    }

    private static void fireRefusedChangesNothing() {
        Check.sentence("Promise 4: false (nothing is FIRED or not by it)");
        GrowDecoder x = used();
        String before = Check.all(x);
        Check.due("so already", x.fire(0, true), false);
        Check.due("not so already", x.fire(1, false), false);
        Check.due("a boundary", x.fire(2, true), false);
        Check.due("no point 3", x.fire(3, true), false);
        Check.due("no point 32", x.fire(32, false), false);
        unchanged(x, before);
    }

    private static void growWithoutRounds() {
        Check.sentence("Promise 5: how many ROUNDS (none)");
        GrowDecoder x = new GrowDecoder();
        Check.due("no point: grow()", Check.grow(x), 0);
        x.point(false);
        Check.due("no edge: grow()", Check.grow(x), 0);
        x.point(true);
        x.edge(0, 1, 20);
        Check.due("nothing fired: grow()", Check.grow(x), 0);
        x.fire(0, true);
        Check.due("fired: grow()", Check.grow(x), 20);
    }

    private static void growThrowsIfStuck() {
        Check.sentence("Promise 5: ArithmeticException: it is STUCK");
        Check.due("one point alone", Check.grow(Check.points("f")), Check.ARITHMETIC);
        GrowDecoder x = Check.points("fffib");
        Check.edges(x, 0, 1, 1, 1, 2, 1, 3, 4, 1);
        Check.due("three of a row", Check.grow(x), Check.ARITHMETIC);
        Check.due("and again", Check.grow(x), Check.ARITHMETIC);
        x.edge(2, 3, 20);
        Check.due("with a way to the boundary", Check.grow(x), 21);
    }

    private static void growStuckCanBeAsked() {
        Check.sentence("Promise 5: how far it was GROWN can be asked");
        GrowDecoder x = Check.points("fibf");
        Check.edges(x, 0, 1, 3, 2, 3, 2);
        Check.due("grow()", Check.grow(x), Check.ARITHMETIC);
        Check.due("cluster(1)", x.cluster(1), 0);
        Check.due("cluster(3)", x.cluster(3), 2);
        Check.due("size(0)", x.size(0), 3);
        Check.due("size(1)", x.size(1), 2);
        Check.due("grown(0)", x.grown(0), 3);
        Check.due("total(3)", x.total(3), 2);
        Check.due("total(4)", x.total(4), 4);
    }

    // The part with the boundary has a fix of its own, which is not told either.
    private static void growStuckHasNoFix() {
        Check.sentence("Promise 5: (.. THE FIX is empty)");
        GrowDecoder x = Check.points("fbi");
        Check.edges(x, 0, 1, 1);
        Check.due("grow()", Check.grow(x), 1);
        Check.due("grown(1) before", x.grown(1), 1);
        x.fire(2, true);
        Check.due("grow()", Check.grow(x), Check.ARITHMETIC);
        Check.due("grown(1)", x.grown(1), 0);
        Check.due("grown(0)", x.grown(0), 1);
    }

    private static void growAfterStuck() {
        Check.sentence("Promise 5: It is GROWN (behind a STUCK one)");
        GrowDecoder x = Check.points("fif");
        Check.edges(x, 0, 1, 2);
        Check.due("grow()", Check.grow(x), Check.ARITHMETIC);
        x.fire(2, false);
        x.fire(1, true);
        Check.due("grow()", Check.grow(x), 1);
        Check.due("grown(1)", x.grown(1), 1);
        Check.due("size(0)", x.size(0), 2);
        Check.due("total(4)", x.total(4), 1);
    }

    private static void clusterNoneIfNoneSuch() {
        Check.sentence("Promise 6: NONE if there is none such");
        GrowDecoder x = Check.points("ib");
        Check.grow(x);
        Check.due("cluster(1)", x.cluster(1), 1);
        Check.due("cluster(2)", x.cluster(2), -1);
        for (int p : NO_POINT) {
            Check.due("cluster(" + p + ")", x.cluster(p), -1);
        }
    }

    private static void clusterNoneIfItCameLater() {
        Check.sentence("Promise 6: NONE (it came later)");
        GrowDecoder x = Check.points("ii");
        Check.grow(x);
        Check.due("point(false)", x.point(false), 2);
        Check.due("cluster(2)", x.cluster(2), -1);
        Check.due("cluster(1)", x.cluster(1), 1);
        Check.grow(x);
        Check.due("cluster(2), grown again", x.cluster(2), 2);
        GrowDecoder y = new GrowDecoder();
        Check.grow(y);
        y.point(true);
        Check.due("grown without a point: cluster(0)", y.cluster(0), -1);
    }

    private static void clusterNoneIfNothingGrown() {
        Check.sentence("Promise 6: NONE if nothing was GROWN");
        GrowDecoder x = Check.points("fb");
        Check.edges(x, 0, 1, 1);
        x.believe(1);
        x.answer();
        Check.due("cluster(0)", x.cluster(0), -1);
        Check.due("cluster(1)", x.cluster(1), -1);
        Check.due("cluster(2)", x.cluster(2), -1);
    }

    private static void clusterOfTheLastGrowth() {
        Check.sentence("Promise 6: The least POINT of the CLUSTER, as it was GROWN last");
        GrowDecoder x = Check.points("biif");
        Check.edges(x, 3, 2, 1, 2, 1, 1);
        Check.due("grow()", Check.grow(x), Check.ARITHMETIC);
        Check.due("cluster(0)", x.cluster(0), 0);
        for (int p = 1; p < 4; p++) {
            Check.due("cluster(" + p + ")", x.cluster(p), 1);
        }
        x.fire(3, false);
        Check.due("cluster(3), not grown since", x.cluster(3), 1);
        Check.grow(x);
        Check.due("cluster(3), grown since", x.cluster(3), 3);
    }

    private static void sizeNoneIfNoneSuch() {
        Check.sentence("Promise 7: NONE likewise (there is none such)");
        GrowDecoder x = Check.points("ib");
        Check.edges(x, 0, 1, 1);
        Check.grow(x);
        Check.due("size(0)", x.size(0), 0);
        Check.due("size(1)", x.size(1), -1);
        for (int e : NO_EDGE) {
            Check.due("size(" + e + ")", x.size(e), -1);
        }
    }

    private static void sizeNoneIfItCameLater() {
        Check.sentence("Promise 7: NONE likewise (it came later)");
        GrowDecoder x = Check.points("fb");
        Check.edges(x, 0, 1, 2);
        Check.grow(x);
        Check.due("edge(0, 1, 1)", x.edge(0, 1, 1), 1);
        Check.due("size(1)", x.size(1), -1);
        Check.due("size(0)", x.size(0), 2);
        Check.grow(x);
        Check.due("size(1), grown again", x.size(1), 1);
        Check.due("size(0), grown again", x.size(0), 1);
    }

    private static void sizeNoneIfNothingGrown() {
        Check.sentence("Promise 7: NONE likewise (nothing was GROWN)");
        GrowDecoder x = Check.points("fb");
        Check.edges(x, 0, 1, 1);
        x.believe(1);
        x.answer();
        Check.due("size(0)", x.size(0), -1);
        Check.due("size(1)", x.size(1), -1);
    }

    private static void grownNothing() {
        Check.sentence("Promise 8: 0 if nothing was GROWN");
        GrowDecoder x = new GrowDecoder();
        Check.due("no point: grown(0)", x.grown(0), 0);
        Check.due("no point: grown(1)", x.grown(1), 0);
        x = Check.points("fb");
        Check.edges(x, 0, 1, 1);
        x.answer();
        x.believe(1);
        Check.due("grown(0)", x.grown(0), 0);
        Check.due("grown(1)", x.grown(1), 0);
    }

    private static void grownNoneForAnother() {
        Check.sentence("Promise 8: NONE for another what");
        GrowDecoder x = Check.points("fb");
        Check.edges(x, 0, 1, 1);
        for (int i = 0; i < 2; i++) {
            for (int what : new int[] {-1, 2, 3, 4, 5, 256, LOW, LOW + 1, HIGH}) {
                Check.due("grown(" + what + ")", x.grown(what), -1);
            }
            Check.grow(x);
        }
        Check.due("grown(1)", x.grown(1), 1);
    }

    private static void grownLast() {
        Check.sentence("Promise 8: What was GROWN last");
        GrowDecoder x = used();
        x.fire(1, true);
        x.edge(0, 2, 1);
        Check.due("grown(0)", x.grown(0), 3);
        Check.due("grown(1)", x.grown(1), 3);
        Check.due("grow()", Check.grow(x), 1);
        Check.due("grown(0), grown again", x.grown(0), 3);
        Check.due("grown(1), grown again", x.grown(1), 1);
        x.fire(0, false);
        x.fire(1, false);
        Check.due("grow()", Check.grow(x), 0);
        Check.due("grown(0), without a round", x.grown(0), 0);
        Check.due("grown(1), without a round", x.grown(1), 0);
    }

    private static void believeLeastTurns() {
        Check.sentence("Promise 9: so many (1 ..) TURNS");
        GrowDecoder x = used();
        Check.due("believe(1)", x.believe(1), 0);
        Check.due("guess()", x.guess(), 1);
        Check.due("believe(2)", x.believe(2), 2);
        x.fire(0, false);
        Check.due("settled behind the first: believe(1)", x.believe(1), 1);
    }

    /** A ring of two edges that are nearly alike, so that it takes long till one of them wins. */
    private static GrowDecoder slow(int length) {
        GrowDecoder x = Check.points("ifif");
        Check.edges(x, 3, 0, 1, 2, 1, length, 0, 2, 19, 2, 0, 20);
        return x;
    }

    private static void believeMostTurns() {
        Check.sentence("Promise 9: so many (.. 40) TURNS");
        GrowDecoder x = slow(18);
        Check.due("believe(39)", x.believe(39), 0);
        Check.due("believe(40)", x.believe(40), 40);
        Check.due("guess()", x.guess(), 7);
        Check.due("believe(41)", x.believe(41), -1);
        x = slow(16);
        Check.due("two turns less: believe(37)", x.believe(37), 0);
        Check.due("two turns less: believe(38)", x.believe(38), 38);
        Check.due("two turns less: believe(40)", x.believe(40), 38);
    }

    private static void believeNotSettled() {
        Check.sentence("Promise 9: 0 if it was not");
        Check.due("two turns more: believe(40)", slow(20).believe(40), 0);
        GrowDecoder x = Check.points("f");
        Check.due("no edge: believe(1)", x.believe(1), 0);
        Check.due("no edge: believe(40)", x.believe(40), 0);
    }

    private static void believeNoneForAnother() {
        Check.sentence("Promise 9: NONE for another number");
        for (GrowDecoder x : new GrowDecoder[] {new GrowDecoder(), used()}) {
            for (int turns : new int[] {0, -1, 41, 42, 256 + 1, LOW, LOW + 1, HIGH}) {
                Check.due("believe(" + turns + ")", x.believe(turns), -1);
            }
        }
    }

    private static void believeRefusedChangesNothing() {
        Check.sentence("Promise 9: NONE (nothing is BELIEVED by it)");
        GrowDecoder x = used();
        String before = Check.all(x);
        x.believe(0);
        x.believe(41);
        unchanged(x, before);
        x.point(false);
        x.believe(0);
        x.believe(41);
        Check.due("sent(0, 0)", Check.sent(x, 0, 0), Check.STATE);
        x = new GrowDecoder();
        x.believe(0);
        Check.due("sent(0, 0) of a new one", Check.sent(x, 0, 0), Check.STATE);
    }

    private static void believeFromTheBeginning() {
        Check.sentence("Promise 9: from the beginning on");
        GrowDecoder x = used();
        for (int i = 0; i < 3; i++) {
            Check.due("believe(1)", x.believe(1), 0);
            Check.due("sent(1, 0)", Check.sent(x, 1, 0), 1);
            Check.due("believe(40)", x.believe(40), 2);
            Check.due("sent(1, 0)", Check.sent(x, 1, 0), -999);
        }
        x.fire(0, false);
        Check.due("nothing fired: believe(1)", x.believe(1), 1);
        Check.due("nothing fired: sent(0, 0)", Check.sent(x, 0, 0), 1000);
        Check.due("nothing fired: sent(0, 1)", Check.sent(x, 0, 1), 1);
    }

    private static void sentSides() {
        Check.sentence("Promise 10: side 0: its first one, 1: the other one, 2: its BELIEF");
        GrowDecoder x = Check.points("if");
        Check.edges(x, 0, 1, 5, 1, 0, 7);
        x.believe(1);
        Check.due("sent(0, 0)", Check.sent(x, 0, 0), 7);
        Check.due("sent(0, 1)", Check.sent(x, 0, 1), -7);
        Check.due("sent(0, 2)", Check.sent(x, 0, 2), 5);
        Check.due("sent(1, 0)", Check.sent(x, 1, 0), -5);
        Check.due("sent(1, 1)", Check.sent(x, 1, 1), 5);
        Check.due("sent(1, 2)", Check.sent(x, 1, 2), 7);
    }

    private static void sentOfABoundary() {
        Check.sentence("Promise 10: (0 of a BOUNDARY)");
        GrowDecoder x = Check.points("bfi");
        Check.edges(x, 0, 1, 5, 1, 0, 7, 2, 0, 3);
        x.believe(1);
        Check.due("first: sent(0, 0)", Check.sent(x, 0, 0), 0);
        Check.due("the other: sent(1, 1)", Check.sent(x, 1, 1), 0);
        Check.due("the other: sent(2, 1)", Check.sent(x, 2, 1), 0);
        Check.due("the inner end: sent(0, 1)", Check.sent(x, 0, 1), -7);
    }

    private static void sentStateAtFirst() {
        Check.sentence("Promise 10: IllegalStateException: nothing was BELIEVED");
        GrowDecoder x = new GrowDecoder();
        Check.due("no point: sent(0, 0)", Check.sent(x, 0, 0), Check.STATE);
        x = Check.points("fb");
        Check.edges(x, 0, 1, 1);
        Check.grow(x);
        x.answer();
        for (int side = 0; side < 3; side++) {
            Check.due("sent(0, " + side + ")", Check.sent(x, 0, side), Check.STATE);
        }
    }

    /** One of the four changes behind which nothing is BELIEVED any more. */
    private static void change(GrowDecoder x, int kind) {
        switch (kind) {
            case 0 -> Check.due("point(true)", x.point(true), 3);
            case 1 -> Check.due("edge(0, 2, 1)", x.edge(0, 2, 1), 2);
            case 2 -> Check.due("fire(1, true)", x.fire(1, true), true);
            default -> Check.due("fire(0, false)", x.fire(0, false), true);
        }
    }

    private static void sentStateAfterAChange() {
        for (int kind = 0; kind < 4; kind++) {
            Check.sentence("Promise 10: IllegalStateException: since " + CHANGES[kind]);
            GrowDecoder x = used();
            Check.due("sent(0, 0)", Check.sent(x, 0, 0), -1000);
            change(x, kind);
            for (int side = 0; side < 3; side++) {
                Check.due("sent(0, " + side + ")", Check.sent(x, 0, side), Check.STATE);
            }
            x.believe(1);
            Check.due("believed again: sent(0, 2)", Check.sent(x, 0, 2) instanceof Integer, true);
        }
        GrowDecoder x = used();
        x.fire(1, true);
        x.fire(1, false);
        Check.due("fired and not: sent(0, 0)", Check.sent(x, 0, 0), Check.STATE);
    }

    private static void sentNoSuchEdge() {
        Check.sentence("Promise 10: IllegalArgumentException: there is no such EDGE");
        GrowDecoder x = used();
        Check.due("sent(1, 0)", Check.sent(x, 1, 0), -999);
        Check.due("sent(2, 0)", Check.sent(x, 2, 0), Check.ARGUMENT);
        for (int e : NO_EDGE) {
            for (int side = 0; side < 3; side++) {
                Check.due("sent(" + e + ", " + side + ")", Check.sent(x, e, side), Check.ARGUMENT);
            }
        }
        x = new GrowDecoder();
        x.believe(1);
        Check.due("no edge at all: sent(0, 0)", Check.sent(x, 0, 0), Check.ARGUMENT);
    }

    private static void sentNoSuchSide() {
        Check.sentence("Promise 10: IllegalArgumentException: there is no such side");
        GrowDecoder x = used();
        for (int side : new int[] {-1, 3, 4, 256, LOW, LOW + 1, HIGH}) {
            Check.due("sent(0, " + side + ")", Check.sent(x, 0, side), Check.ARGUMENT);
            Check.due("sent(1, " + side + ")", Check.sent(x, 1, side), Check.ARGUMENT);
            Check.due("sent(2, " + side + ")", Check.sent(x, 2, side), Check.ARGUMENT);
        }
    }

    private static void sentStateIsAskedFirst() {
        Check.sentence("Promise 10: IllegalArgumentException (asked behind that)");
        GrowDecoder x = Check.points("fb");
        Check.edges(x, 0, 1, 1);
        for (int i = 0; i < 2; i++) {
            Check.due("sent(1, 0)", Check.sent(x, 1, 0), Check.STATE);
            Check.due("sent(-1, 0)", Check.sent(x, -1, 0), Check.STATE);
            Check.due("sent(0, 3)", Check.sent(x, 0, 3), Check.STATE);
            Check.due("sent(0, -1)", Check.sent(x, 0, -1), Check.STATE);
            Check.due("sent(60, 3)", Check.sent(x, 60, 3), Check.STATE);
            x.believe(1);
            x.point(false);
        }
    }

    private static void sentThrowingChangesNothing() {
        Check.sentence("Promise 10: an exception (nothing changes by it)");
        GrowDecoder x = used();
        String before = Check.all(x);
        Check.sent(x, 2, 0);
        Check.sent(x, 0, 3);
        unchanged(x, before);
        x.point(false);
        before = Check.all(x);
        Check.sent(x, 0, 0);
        unchanged(x, before);
    }

    private static void sentAfterRefusedCalls() {
        Check.sentence("Promise 10: since a POINT or EDGE came, or one was FIRED (none did)");
        GrowDecoder x = used();
        x.edge(0, 0, 1);
        x.fire(0, true);
        x.fire(2, true);
        x.believe(0);
        Check.grow(x);
        x.answer();
        x.chosen();
        x.guess();
        Check.due("sent(1, 0)", Check.sent(x, 1, 0), -999);
        Check.due("guess()", x.guess(), 3);
    }

    private static void guessNothingAtFirst() {
        Check.sentence("Promise 11: 0 if nothing was BELIEVED");
        GrowDecoder x = new GrowDecoder();
        Check.due("no point: guess()", x.guess(), 0);
        x = Check.points("fb");
        Check.edges(x, 0, 1, 1);
        x.believe(0);
        Check.due("guess()", x.guess(), 0);
        x.believe(1);
        Check.due("believed: guess()", x.guess(), 1);
    }

    private static void guessNothingAfterAChange() {
        for (int kind = 0; kind < 4; kind++) {
            Check.sentence("Promise 11: 0 if nothing was BELIEVED since " + CHANGES[kind]);
            GrowDecoder x = used();
            Check.due("guess()", x.guess(), 3);
            change(x, kind);
            Check.due("changed: guess()", x.guess(), 0);
        }
    }

    private static void guessOfTheLastTurn() {
        Check.sentence("Promise 11: THE GUESS of the last TURN (SETTLED or not)");
        GrowDecoder x = used();
        x.believe(1);
        Check.due("not settled: guess()", x.guess(), 1);
        x.believe(40);
        Check.due("settled: guess()", x.guess(), 3);
        x.fire(0, false);
        x.believe(40);
        Check.due("nothing fired: guess()", x.guess(), 0);
    }

    private static void answerNone() {
        Check.sentence("Promise 12: NONE if there is none");
        GrowDecoder x = Check.points("fiib");
        Check.due("no edge: answer()", x.answer(), -1);
        Check.edges(x, 0, 1, 1, 2, 3, 1);
        Check.due("no way to a boundary: answer()", x.answer(), -1);
        Check.due("no way: believe(3)", x.believe(3), 0);
        Check.due("no way, believed: answer()", x.answer(), -1);
        x.fire(2, true);
        Check.due("one of two parts: answer()", x.answer(), -1);
        x.fire(1, true);
        Check.due("both parts: answer()", x.answer(), 3);
    }

    private static void answerOfNothing() {
        Check.sentence("Promise 12: THE ANSWER (the empty set)");
        GrowDecoder x = new GrowDecoder();
        Check.due("no point: answer()", x.answer(), 0);
        x = Check.points("ib");
        Check.due("no edge: answer()", x.answer(), 0);
        Check.edges(x, 0, 1, 1);
        Check.due("nothing fired: answer()", x.answer(), 0);
        x.believe(1);
        Check.due("nothing fired, believed: answer()", x.answer(), 0);
    }

    private static void chosenNone() {
        Check.sentence("Promise 13: How many are CHOSEN (none)");
        GrowDecoder x = new GrowDecoder();
        Check.due("no point: chosen()", x.chosen(), 0);
        x = Check.points("fb");
        Check.due("no edge: chosen()", x.chosen(), 0);
        Check.edges(x, 0, 1, 1);
        Check.due("one edge: chosen()", x.chosen(), 1);
    }

    // With a boundary each of 29 inner points has its own edge; without one a row of 30 has 29.
    private static void chosenMost() {
        Check.sentence("Promise 13: How many are CHOSEN (the most)");
        GrowDecoder x = Check.points("biiiiiiiiiiiiiiiiiiiiiiiiiiiii");
        for (int e = 0; e < 60; e++) {
            x.edge(0, 1 + e % 29, 1);
        }
        Check.due("a boundary amidst: chosen()", x.chosen(), 29);
        x = Check.points("iiiiiiiiiiiiiiiiiiiiiiiiiiiiii");
        for (int e = 0; e < 60; e++) {
            x.edge(e % 30, (e + 1) % 30, 1);
        }
        Check.due("two rings: chosen()", x.chosen(), 29);
    }

    private static void syndromeOfNothing() {
        Check.sentence("Promise 14: The SYNDROME of a set of EDGES (the empty one)");
        Check.due("no point: syndrome(0)", new GrowDecoder().syndrome(0), 0);
        Check.due("used: syndrome(0)", used().syndrome(0), 0);
    }

    private static void syndromeNone() {
        Check.sentence("Promise 14: NONE if it has an EDGE that there is not");
        Check.due("no edge: syndrome(1)", new GrowDecoder().syndrome(1), -1);
        Check.due("no edge: syndrome(-1)", new GrowDecoder().syndrome(-1L), -1);
        GrowDecoder x = used();
        Check.due("syndrome(3)", x.syndrome(3), 1);
        for (int e = 2; e < 64; e++) {
            Check.due("edge " + e + " alone", x.syndrome(1L << e), -1);
            Check.due("edge " + e + " with others", x.syndrome(1L << e | 3), -1);
        }
        Check.due("syndrome(-1)", x.syndrome(-1L), -1);
        Check.due("syndrome(MIN)", x.syndrome(Long.MIN_VALUE), -1);
        Check.due("syndrome(MAX)", x.syndrome(Long.MAX_VALUE), -1);
        x.edge(0, 2, 1);
        Check.due("edge 2, since it came", x.syndrome(4), 1);
    }

    private static GrowDecoder sixtyEdges() {
        GrowDecoder x = Check.points("iib");
        for (int e = 0; e < 60; e++) {
            x.edge(e < 30 ? 0 : 1, 2, 1);
        }
        return x;
    }

    private static void syndromeNoneBeyondSixty() {
        Check.sentence("Promise 14: NONE if it has an EDGE that there is not (60 EDGES)");
        GrowDecoder x = sixtyEdges();
        for (int e = 60; e < 64; e++) {
            Check.due("edge " + e + " alone", x.syndrome(1L << e), -1);
            Check.due("edge " + e + " with edge 0", x.syndrome(1L << e | 1), -1);
        }
        Check.due("syndrome(-1)", x.syndrome(-1L), -1);
    }

    private static void syndromeOfAll() {
        Check.sentence("Promise 14: The SYNDROME of a set of EDGES (60 EDGES)");
        GrowDecoder x = sixtyEdges();
        for (int e = 0; e < 60; e++) {
            Check.due("edge " + e, x.syndrome(1L << e), e < 30 ? 1 : 2);
        }
        Check.due("all", x.syndrome((1L << 60) - 1), 0);
        Check.due("all but edge 59", x.syndrome((1L << 59) - 1), 2);
        Check.due("all but edge 0", x.syndrome((1L << 60) - 2), 1);
    }

    private static void totalsOfNothing() {
        Check.sentence("Promise 15: 3: CLUSTERS, 4: ROUNDS (0 if nothing was)");
        GrowDecoder x = new GrowDecoder();
        for (int what = 0; what < 5; what++) {
            Check.due("no point: total(" + what + ")", x.total(what), 0);
        }
        x = Check.points("fb");
        Check.edges(x, 0, 1, 1);
        x.believe(1);
        x.answer();
        Check.due("total(3)", x.total(3), 0);
        Check.due("total(4)", x.total(4), 0);
    }

    private static void totalsOfMost() {
        Check.sentence("Promise 15: What 0: POINTS, 1: EDGES, 2: FIRED POINTS, as a set (the most)");
        GrowDecoder x = Check.points("ffffffffffffffffffffffffffffff");
        for (int e = 0; e < 60; e++) {
            x.edge(e % 30, (e + 1) % 30, 2);
        }
        Check.due("total(0)", x.total(0), 30);
        Check.due("total(1)", x.total(1), 60);
        Check.due("total(2)", x.total(2), (1 << 30) - 1);
        x.point(false);
        x.edge(0, 1, 1);
        x.fire(0, true);
        Check.due("one more: total(0)", x.total(0), 30);
        Check.due("one more: total(1)", x.total(1), 60);
        Check.due("one more: total(2)", x.total(2), (1 << 30) - 1);
        x.fire(29, false);
        Check.due("one less: total(2)", x.total(2), (1 << 29) - 1);
    }

    private static void totalsGrownLast() {
        Check.sentence("Promise 15: 3: CLUSTERS, 4: ROUNDS, as it was GROWN last");
        GrowDecoder x = used();
        Check.due("total(3)", x.total(3), 1);
        Check.due("total(4)", x.total(4), 2);
        x.point(false);
        x.edge(0, 2, 1);
        x.fire(3, true);
        Check.due("not grown since: total(3)", x.total(3), 1);
        Check.due("not grown since: total(4)", x.total(4), 2);
        Check.due("grow()", Check.grow(x), Check.ARITHMETIC);
        Check.due("stuck: total(3)", x.total(3), 2);
        Check.due("stuck: total(4)", x.total(4), 2);
        x.fire(0, false);
        x.fire(3, false);
        Check.due("grow()", Check.grow(x), 0);
        Check.due("without a round: total(3)", x.total(3), 4);
        Check.due("without a round: total(4)", x.total(4), 0);
    }

    private static void totalsNoneForAnother() {
        Check.sentence("Promise 15: NONE for another what");
        for (GrowDecoder x : new GrowDecoder[] {new GrowDecoder(), used()}) {
            for (int what : new int[] {-1, 5, 6, 256, LOW, LOW + 1, HIGH}) {
                Check.due("total(" + what + ")", x.total(what), -1);
            }
        }
    }

    private static void askingChangesNothing() {
        Check.sentence("Not promised: nothing beyond the answers and state changes described");
        GrowDecoder x = used();
        String before = Check.all(x);
        unchanged(x, before);
        x.cluster(-1);
        x.size(60);
        x.grown(2);
        x.total(5);
        x.syndrome(-1L);
        unchanged(x, before);
    }
}
