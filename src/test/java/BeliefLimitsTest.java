/**
 * "Terms" from BELIEVED on: a test of its own for each sentence that names a boundary case. A last
 * point that is fired and has no edge keeps an object from ever being settled, so that each turn
 * can be looked at.
 */
public final class BeliefLimitsTest {
    public static void main(String[] args) {
        nothingSentAtFirst();
        lengthAndWhatTheOtherEndSent();
        nothingByABoundary();
        aThousandWithoutOthers();
        leastSizeOfTheOthers();
        belowByOddNumbers();
        belowOfAFiredPoint();
        neverAboveAThousand();
        neverBelowMinusAThousand();
        beliefIsNotBounded();
        beliefWithOneInnerEnd();
        guessIsBelowNothing();
        settledByTheFiredPoints();
        settledWithNothingFired();
        settledWithoutAPoint();
        orderedByBelief();
        orderedByTheFirstOfSeveral();
        orderedByLengthAtFirst();
        orderedByLengthAfterAChange();
        orderedByBeliefThoughNotSettled();
        notChosenTwice();
        notChosenByARing();
        notChosenFromBoundaryToBoundary();
        answerIsOfTheChosen();
        Check.done();
    }

    private static void sent(GrowDecoder x, int edge, int first, int second, int belief) {
        Check.due("sent(" + edge + ", 0)", Check.sent(x, edge, 0), first);
        Check.due("sent(" + edge + ", 1)", Check.sent(x, edge, 1), second);
        Check.due("sent(" + edge + ", 2)", Check.sent(x, edge, 2), belief);
    }

    private static void solved(String where, GrowDecoder x, long answer, int chosen) {
        Check.due(where + ": answer()", x.answer(), answer);
        Check.due(where + ": chosen()", x.chosen(), chosen);
    }

    // Point 1 passes on what edge 1 sent it in turn 1: with 0 from point 2 that is the length alone.
    private static void nothingSentAtFirst() {
        Check.sentence("Terms: each INNER end of an EDGE has sent 0 to it at first");
        GrowDecoder x = Check.points("iiif");
        Check.edges(x, 0, 1, 6, 1, 2, 9);
        Check.due("believe(1)", x.believe(1), 0);
        sent(x, 0, 1000, 9, 1015);
        sent(x, 1, 6, 1000, 1015);
        x.believe(40);
        Check.due("believe(1) again", x.believe(1), 0);
        sent(x, 0, 1000, 9, 1015);
    }

    private static void lengthAndWhatTheOtherEndSent() {
        Check.sentence("Terms: its LENGTH and what the other end sent to it, together");
        GrowDecoder x = Check.points("iifbbf");
        Check.edges(x, 0, 1, 2, 1, 2, 5, 2, 3, 7, 0, 4, 11);
        x.believe(1);
        sent(x, 0, 11, 5, 18);
        sent(x, 1, 2, -7, 0);
        sent(x, 2, -5, 0, 2);
        sent(x, 3, 2, 0, 13);
        x.believe(2);
        // To point 1 come 2 + 11 by edge 0 and 5 - 7 by edge 1.
        sent(x, 0, 11, -2, 11);
        sent(x, 1, 13, -7, 11);
        // To point 2 come 5 + 2 by edge 1, to point 0 comes 2 + 5 by edge 0.
        sent(x, 2, -7, 0, 0);
        sent(x, 3, 7, 0, 18);
    }

    private static void nothingByABoundary() {
        Check.sentence("Terms: (nothing by a BOUNDARY)");
        GrowDecoder x = Check.points("bibf");
        Check.edges(x, 0, 1, 3, 1, 2, 4);
        for (int turns = 1; turns <= 40; turns += 13) {
            x.believe(turns);
            sent(x, 0, 0, 4, 7);
            sent(x, 1, 3, 0, 7);
        }
    }

    private static void aThousandWithoutOthers() {
        Check.sentence("Terms: (1000 without others)");
        GrowDecoder x = Check.points("iff");
        Check.edges(x, 0, 1, 20);
        for (int turns = 1; turns <= 3; turns++) {
            x.believe(turns);
            sent(x, 0, 1000, -1000, 20);
        }
    }

    private static void leastSizeOfTheOthers() {
        Check.sentence("Terms: the least size of those that its other EDGES sent to it");
        GrowDecoder x = Check.points("ibbbf");
        Check.edges(x, 0, 1, 4, 2, 0, 3, 0, 3, 9);
        x.believe(1);
        sent(x, 0, 3, 0, 7);
        sent(x, 1, 0, 4, 7);
        sent(x, 2, 3, 0, 12);
        x.edge(0, 1, 3);
        x.believe(1);
        // Two are the least now, so it is 3 for each of them too.
        sent(x, 0, 3, 0, 7);
        sent(x, 1, 0, 3, 6);
        sent(x, 2, 3, 0, 12);
        sent(x, 3, 3, 0, 6);
    }

    /** Point 0 in the middle, points 1 to 3 round it, of which so many are fired, behind two turns. */
    private static GrowDecoder star(boolean middle, int around) {
        GrowDecoder x = Check.points("iiiif");
        Check.edges(x, 0, 1, 1, 0, 2, 2, 0, 3, 3);
        if (middle) {
            x.fire(0, true);
        }
        for (int p = 1; p <= around; p++) {
            x.fire(p, true);
        }
        Check.due("believe(2)", x.believe(2), 0);
        return x;
    }

    private static void fromTheMiddle(GrowDecoder x, int... numbers) {
        for (int e = 0; e < 3; e++) {
            Check.due("sent(" + e + ", 0)", Check.sent(x, e, 0), numbers[e]);
        }
    }

    // A fired point sends -1000, so its edge e sends on e + 1 - 1000; one that is not sends 1000.
    private static void belowByOddNumbers() {
        Check.sentence("Terms: below 0, if an odd number of these are below 0");
        fromTheMiddle(star(false, 0), 1000, 1000, 1000);
        fromTheMiddle(star(false, 1), 1000, -999, -999);
        fromTheMiddle(star(false, 2), -998, -999, 998);
        fromTheMiddle(star(false, 3), 997, 997, 998);
    }

    private static void belowOfAFiredPoint() {
        Check.sentence("Terms: of a FIRED POINT if an even number is");
        fromTheMiddle(star(true, 0), -1000, -1000, -1000);
        fromTheMiddle(star(true, 1), -1000, 999, 999);
        fromTheMiddle(star(true, 2), 998, 999, -998);
        fromTheMiddle(star(true, 3), -997, -997, -998);
    }

    private static void neverAboveAThousand() {
        Check.sentence("Terms: (What would be above 1000 .. is that.)");
        GrowDecoder x = Check.points("iiiif");
        Check.edges(x, 0, 1, 20, 1, 2, 1, 2, 3, 20);
        for (int turns = 3; turns <= 40; turns += 37) {
            x.believe(turns);
            sent(x, 0, 1000, 1000, 2020);
            sent(x, 1, 1000, 1000, 2001);
            sent(x, 2, 1000, 1000, 2020);
        }
    }

    // Point 1 would pass on 20 + 1000 from point 0, with the sign turned, since it is fired.
    private static void neverBelowMinusAThousand() {
        Check.sentence("Terms: (What would be .. below -1000, is that.)");
        GrowDecoder x = Check.points("ifif");
        Check.edges(x, 0, 1, 20, 1, 2, 20);
        Check.due("believe(2)", x.believe(2), 0);
        sent(x, 0, 1000, -1000, 20);
        sent(x, 1, -1000, 1000, 20);
        Check.due("believe(40)", x.believe(40), 0);
        sent(x, 0, 1000, -1000, 20);
        sent(x, 1, -1000, 1000, 20);
    }

    private static void beliefIsNotBounded() {
        Check.sentence("Terms: BELIEF, its LENGTH and what its INNER ends sent to it, together");
        GrowDecoder x = Check.points("ff");
        Check.edges(x, 0, 1, 20);
        Check.due("believe(1)", x.believe(1), 1);
        sent(x, 0, -1000, -1000, -1980);
        x = Check.points("ii");
        Check.edges(x, 0, 1, 20);
        Check.due("believe(1)", x.believe(1), 1);
        sent(x, 0, 1000, 1000, 2020);
    }

    private static void beliefWithOneInnerEnd() {
        Check.sentence("Terms: BELIEF, its INNER ends (a BOUNDARY adds nothing)");
        GrowDecoder x = Check.points("bif");
        Check.edges(x, 0, 1, 1);
        x.believe(1);
        sent(x, 0, 0, 1000, 1001);
        x = Check.points("ibf");
        Check.edges(x, 0, 1, 1);
        x.believe(1);
        sent(x, 0, 1000, 0, 1001);
    }

    private static void guessIsBelowNothing() {
        Check.sentence("Terms: THE GUESS, the EDGES whose BELIEF is below 0");
        GrowDecoder x = Check.points("fbb");
        Check.edges(x, 0, 1, 4, 0, 2, 4);
        Check.due("believe(40)", x.believe(40), 0);
        sent(x, 0, -4, 0, 0);
        Check.due("both 0: guess()", x.guess(), 0);
        x = Check.points("fbb");
        Check.edges(x, 0, 1, 5, 0, 2, 4);
        Check.due("believe(40)", x.believe(40), 1);
        sent(x, 0, -4, 0, 1);
        sent(x, 1, -5, 0, -1);
        Check.due("1 and -1: guess()", x.guess(), 2);
    }

    private static void settledByTheFiredPoints() {
        Check.sentence("Terms: SETTLED, if its SYNDROME are the FIRED POINTS");
        GrowDecoder x = Check.points("fif");
        Check.edges(x, 0, 1, 1, 1, 2, 1);
        Check.due("ends of a row: believe(1)", x.believe(1), 1);
        Check.due("ends of a row: guess()", x.guess(), 3);
        x = Check.points("fff");
        Check.edges(x, 0, 1, 1);
        Check.due("one too many fired: believe(40)", x.believe(40), 0);
        Check.due("one too many fired: guess()", x.guess(), 1);
        x = Check.points("fbb");
        Check.edges(x, 0, 1, 1, 0, 2, 1);
        Check.due("empty guess: believe(40)", x.believe(40), 0);
        Check.due("empty guess: guess()", x.guess(), 0);
        x = Check.points("fi");
        Check.edges(x, 0, 1, 1);
        Check.due("one too few fired: believe(40)", x.believe(40), 0);
        Check.due("one too few fired: guess()", x.guess(), 0);
    }

    private static void settledWithNothingFired() {
        Check.sentence("Terms: SETTLED (nothing is FIRED)");
        GrowDecoder x = Check.points("iib");
        Check.due("no edge: believe(40)", x.believe(40), 1);
        Check.edges(x, 0, 1, 1, 1, 2, 20);
        Check.due("believe(40)", x.believe(40), 1);
        Check.due("guess()", x.guess(), 0);
    }

    private static void settledWithoutAPoint() {
        Check.sentence("Terms: SETTLED (there is no POINT, and yet it takes a TURN)");
        GrowDecoder x = new GrowDecoder();
        Check.due("believe(1)", x.believe(1), 1);
        Check.due("believe(40)", x.believe(40), 1);
    }

    // Behind a turn the beliefs are 7 - 6 for edge 0, 6 - 7 for edge 1, 8 - 6 for edge 2.
    private static void orderedByBelief() {
        Check.sentence("Terms: ORDERED, EDGES by BELIEF, the least one first");
        GrowDecoder x = Check.points("fbbb");
        Check.edges(x, 0, 1, 7, 0, 2, 6, 3, 0, 8);
        Check.due("believe(1)", x.believe(1), 1);
        Check.due("sent(0, 2)", Check.sent(x, 0, 2), 1);
        Check.due("sent(1, 2)", Check.sent(x, 1, 2), -1);
        Check.due("sent(2, 2)", Check.sent(x, 2, 2), 2);
        solved("the one below 0", x, 2, 1);

        x = Check.points("fib");
        Check.edges(x, 0, 1, 2, 0, 2, 3, 1, 2, 1);
        Check.due("believe(1)", x.believe(1), 0);
        Check.due("sent(0, 2)", Check.sent(x, 0, 2), 0);
        Check.due("sent(1, 2)", Check.sent(x, 1, 2), 1);
        Check.due("sent(2, 2)", Check.sent(x, 2, 2), 3);
        solved("not by length", x, 2, 2);
    }

    private static void orderedByTheFirstOfSeveral() {
        Check.sentence("Terms: ORDERED, of several the first one");
        GrowDecoder x = Check.points("fbbb");
        Check.edges(x, 0, 1, 9, 2, 0, 5, 0, 3, 5, 0, 2, 5);
        solved("by length", x, 2, 1);
        Check.due("believe(1)", x.believe(1), 0);
        for (int e = 1; e < 4; e++) {
            Check.due("sent(" + e + ", 2)", Check.sent(x, e, 2), 0);
        }
        solved("by belief", x, 2, 1);
    }

    private static void orderedByLengthAtFirst() {
        Check.sentence("Terms: ORDERED by LENGTH, as long as nothing was BELIEVED");
        GrowDecoder x = Check.points("fib");
        Check.edges(x, 0, 1, 2, 0, 2, 3, 1, 2, 1);
        solved("at first", x, 5, 2);
        Check.due("believe(0)", x.believe(0), -1);
        Check.due("believe(41)", x.believe(41), -1);
        solved("nothing was by a wrong number", x, 5, 2);
        Check.grow(x);
        solved("nothing was by growing", x, 5, 2);
    }

    private static void orderedByLengthAfterAChange() {
        String[] changes = {"a POINT", "an EDGE came", "one was FIRED", "or not"};
        long[] answers = {5, 5, 1, 5};
        for (int change = 0; change < 4; change++) {
            Check.sentence("Terms: ORDERED by LENGTH, BELIEVED since .. " + changes[change]);
            GrowDecoder x = Check.points("fibi");
            Check.edges(x, 0, 1, 2, 0, 2, 3, 1, 2, 1);
            if (change == 3) {
                x.edge(3, 2, 20);
                x.fire(3, true);
            }
            x.believe(1);
            solved("believed", x, change == 3 ? 10 : 2, change == 3 ? 3 : 2);
            switch (change) {
                case 0 -> x.point(false);
                case 1 -> x.edge(0, 2, 20);
                case 2 -> x.fire(1, true);
                default -> x.fire(3, false);
            }
            solved("changed", x, answers[change], change == 3 ? 3 : 2);
        }
    }

    private static void orderedByBeliefThoughNotSettled() {
        Check.sentence("Terms: ORDERED by BELIEF (BELIEVED, and not SETTLED)");
        GrowDecoder x = Check.points("fibf");
        Check.edges(x, 0, 1, 2, 0, 2, 3, 1, 2, 1, 3, 2, 1);
        Check.due("believe(1)", x.believe(1), 0);
        solved("not settled", x, 10, 3);
    }

    private static void notChosenTwice() {
        Check.sentence("Terms: CHOSEN, whose SYNDROME is not that of a set (of one)");
        GrowDecoder x = Check.points("iibb");
        Check.edges(x, 0, 1, 1, 1, 0, 1, 0, 2, 1, 3, 0, 1);
        solved("nothing fired", x, 0, 2);
        x.fire(0, true);
        solved("one fired", x, 4, 2);
    }

    private static void notChosenByARing() {
        Check.sentence("Terms: CHOSEN, whose SYNDROME is not that of a set (a ring)");
        GrowDecoder x = Check.points("iiii");
        Check.edges(x, 0, 1, 1, 1, 2, 1, 2, 3, 1);
        solved("a row", x, 0, 3);
        x.edge(3, 0, 1);
        solved("a ring", x, 0, 3);
        x.edge(0, 2, 1);
        solved("and across", x, 0, 3);
    }

    private static void notChosenFromBoundaryToBoundary() {
        Check.sentence("Terms: CHOSEN, whose SYNDROME is not that of a set (between BOUNDARIES)");
        GrowDecoder x = Check.points("biib");
        Check.edges(x, 0, 1, 1, 1, 2, 1, 2, 3, 1);
        solved("nothing fired", x, 0, 2);
        x.fire(2, true);
        solved("one fired", x, 3, 2);
    }

    // The short way by edges 0 and 1 is chosen, so the answer has no edge 2, though it is one alone.
    private static void answerIsOfTheChosen() {
        Check.sentence("Terms: THE ANSWER, the set of CHOSEN ones");
        GrowDecoder x = Check.points("fif");
        Check.edges(x, 0, 1, 1, 1, 2, 1, 0, 2, 2);
        solved("two for one", x, 3, 2);
        x.fire(0, false);
        x.fire(2, false);
        solved("the empty set", x, 0, 2);
    }
}
