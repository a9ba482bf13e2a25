/** Promises 9 to 11: what is sent to and fro, the beliefs and the guess. */
public final class BelieveTest {
    private static final int[] STRANGE = {-1, -2, 30, 31, 32, 60, 64, Integer.MAX_VALUE, Integer.MIN_VALUE};

    public static void main(String[] args) {
        emptyObject();
        oneEdgeToABoundary();
        nothingFired();
        leastOfTheOthers();
        beliefOfNothingIsNoGuess();
        aSecondTurn();
        countOfThoseBelow();
        sentIsBounded();
        fromTheBeginningOn();
        wrongTurns();
        nothingBelieved();
        changesForget();
        refusedCallsForgetNothing();
        wrongEdgesAndSides();
        Check.done();
    }

    private static void sent(String where, GrowDecoder x, int edge, int first, int second, int belief) {
        Check.due(where + ": sent(" + edge + ", 0)", Check.sent(x, edge, 0), first);
        Check.due(where + ": sent(" + edge + ", 1)", Check.sent(x, edge, 1), second);
        Check.due(where + ": sent(" + edge + ", 2)", Check.sent(x, edge, 2), belief);
    }

    private static void emptyObject() {
        GrowDecoder x = new GrowDecoder();
        Check.due("empty: believe(1)", x.believe(1), 1);
        Check.due("empty: guess()", x.guess(), 0);
        Check.due("empty: sent(0, 0)", Check.sent(x, 0, 0), Check.ARGUMENT);
    }

    private static void oneEdgeToABoundary() {
        GrowDecoder x = Check.points("fb");
        Check.edges(x, 0, 1, 5);
        Check.due("boundary second: believe(40)", x.believe(40), 1);
        sent("boundary second", x, 0, -1000, 0, -995);
        Check.due("boundary second: guess()", x.guess(), 1);

        x = Check.points("bf");
        Check.edges(x, 0, 1, 20);
        Check.due("boundary first: believe(1)", x.believe(1), 1);
        sent("boundary first", x, 0, 0, -1000, -980);
        Check.due("boundary first: guess()", x.guess(), 1);
    }

    private static void nothingFired() {
        GrowDecoder x = Check.points("ib");
        Check.edges(x, 0, 1, 5);
        Check.due("nothing fired: believe(7)", x.believe(7), 1);
        sent("nothing fired", x, 0, 1000, 0, 1005);
        Check.due("nothing fired: guess()", x.guess(), 0);
    }

    private static void leastOfTheOthers() {
        GrowDecoder x = Check.points("fbbb");
        Check.edges(x, 0, 1, 2, 0, 2, 3, 3, 0, 7);
        Check.due("others: believe(9)", x.believe(9), 1);
        sent("others", x, 0, -3, 0, -1);
        sent("others", x, 1, -2, 0, 1);
        sent("others", x, 2, 0, -2, 5);
        Check.due("others: guess()", x.guess(), 1);
        x.fire(0, false);
        Check.due("others, not fired: believe(9)", x.believe(9), 1);
        sent("others, not fired", x, 0, 3, 0, 5);
        sent("others, not fired", x, 1, 2, 0, 5);
        sent("others, not fired", x, 2, 0, 2, 9);
    }

    private static void beliefOfNothingIsNoGuess() {
        GrowDecoder x = Check.points("fbb");
        Check.edges(x, 0, 1, 4, 0, 2, 4);
        Check.due("belief 0: believe(40)", x.believe(40), 0);
        sent("belief 0", x, 0, -4, 0, 0);
        sent("belief 0", x, 1, -4, 0, 0);
        Check.due("belief 0: guess()", x.guess(), 0);
    }

    private static void aSecondTurn() {
        GrowDecoder x = Check.points("fib");
        Check.edges(x, 0, 1, 1, 1, 2, 1);
        Check.due("turn 1: believe(1)", x.believe(1), 0);
        sent("turn 1", x, 0, -1000, 1, -998);
        sent("turn 1", x, 1, 1, 0, 2);
        Check.due("turn 1: guess()", x.guess(), 1);
        Check.due("turn 2: believe(2)", x.believe(2), 2);
        sent("turn 2", x, 0, -1000, 1, -998);
        sent("turn 2", x, 1, -999, 0, -998);
        Check.due("turn 2: guess()", x.guess(), 3);
    }

    private static void countOfThoseBelow() {
        GrowDecoder x = Check.points("fffb");
        Check.edges(x, 0, 1, 1, 2, 1, 1, 1, 3, 1);
        Check.due("count: believe(1)", x.believe(1), 0);
        sent("count, turn 1", x, 0, -1000, -1, -1000);
        sent("count, turn 1", x, 2, -1, 0, 0);
        Check.due("count, turn 1: guess()", x.guess(), 3);
        Check.due("count: believe(40)", x.believe(40), 2);
        sent("count", x, 0, -1000, 1, -998);
        sent("count", x, 1, -1000, 1, -998);
        sent("count", x, 2, -999, 0, -998);
        Check.due("count: guess()", x.guess(), 7);
    }

    // The point 3 has no edge, so it never settles.
    private static void sentIsBounded() {
        GrowDecoder x = Check.points("iiif");
        Check.edges(x, 0, 1, 20, 1, 2, 20);
        Check.due("bounded: believe(1)", x.believe(1), 0);
        sent("bounded, turn 1", x, 0, 1000, 20, 1040);
        sent("bounded, turn 1", x, 1, 20, 1000, 1040);
        Check.due("bounded: believe(2)", x.believe(2), 0);
        sent("bounded, turn 2", x, 0, 1000, 1000, 2020);
        sent("bounded, turn 2", x, 1, 1000, 1000, 2020);
        Check.due("bounded: believe(40)", x.believe(40), 0);
        sent("bounded, turn 40", x, 1, 1000, 1000, 2020);
    }

    private static void fromTheBeginningOn() {
        GrowDecoder x = Check.points("fib");
        Check.edges(x, 0, 1, 1, 1, 2, 1);
        for (int i = 0; i < 3; i++) {
            Check.due("again: believe(40)", x.believe(40), 2);
            Check.due("again: believe(1)", x.believe(1), 0);
            sent("again", x, 1, 1, 0, 2);
        }
    }

    private static void wrongTurns() {
        GrowDecoder x = Check.points("fib");
        Check.edges(x, 0, 1, 1, 1, 2, 1);
        Check.due("believe(0)", x.believe(0), -1);
        Check.due("believe(41)", x.believe(41), -1);
        Check.due("nothing believed by that", Check.sent(x, 0, 0), Check.STATE);
        x.believe(2);
        Check.due("believe(0)", x.believe(0), -1);
        Check.due("believe(41)", x.believe(41), -1);
        Check.due("believe(-1)", x.believe(-1), -1);
        Check.due("believe(MAX)", x.believe(Integer.MAX_VALUE), -1);
        Check.due("believe(MIN)", x.believe(Integer.MIN_VALUE), -1);
        sent("still believed", x, 1, -999, 0, -998);
        Check.due("still believed: guess()", x.guess(), 3);
    }

    private static void nothingBelieved() {
        GrowDecoder x = Check.points("fb");
        Check.edges(x, 0, 1, 5);
        Check.due("nothing believed: sent(0, 0)", Check.sent(x, 0, 0), Check.STATE);
        Check.due("nothing believed: sent(1, 0)", Check.sent(x, 1, 0), Check.STATE);
        Check.due("nothing believed: sent(-1, 7)", Check.sent(x, -1, 7), Check.STATE);
        Check.due("nothing believed: guess()", x.guess(), 0);
    }

    private static void changesForget() {
        for (int change = 0; change < 4; change++) {
            GrowDecoder x = Check.points("fib");
            Check.edges(x, 0, 1, 5, 0, 2, 1);
            x.believe(1);
            Check.due("believed: guess()", x.guess() != 0, true);
            switch (change) {
                case 0 -> x.point(true);
                case 1 -> x.edge(1, 2, 3);
                case 2 -> x.fire(1, true);
                default -> x.fire(0, false);
            }
            Check.due("change " + change + ": sent(0, 0)", Check.sent(x, 0, 0), Check.STATE);
            Check.due("change " + change + ": sent(9, 9)", Check.sent(x, 9, 9), Check.STATE);
            Check.due("change " + change + ": guess()", x.guess(), 0);
            x.believe(1);
            Check.due("change " + change + ", believed: sent(9, 9)", Check.sent(x, 9, 9), Check.ARGUMENT);
        }
    }

    private static void refusedCallsForgetNothing() {
        GrowDecoder x = Check.points("fibiiiiiiiiiiiiiiiiiiiiiiiiiii");
        Check.edges(x, 0, 1, 1, 1, 2, 1);
        x.believe(2);
        x.point(false);
        x.edge(0, 0, 1);
        x.fire(0, true);
        x.fire(1, false);
        x.fire(2, true);
        x.fire(30, true);
        Check.grow(x);
        x.answer();
        x.chosen();
        x.syndrome(3);
        sent("refused", x, 1, -999, 0, -998);
        Check.due("refused: guess()", x.guess(), 3);
    }

    private static void wrongEdgesAndSides() {
        GrowDecoder x = Check.points("fb");
        Check.edges(x, 0, 1, 5);
        x.believe(1);
        Check.due("sent(1, 0)", Check.sent(x, 1, 0), Check.ARGUMENT);
        Check.due("sent(0, 3)", Check.sent(x, 0, 3), Check.ARGUMENT);
        for (int strange : STRANGE) {
            Check.due("sent(" + strange + ", 0)", Check.sent(x, strange, 0), Check.ARGUMENT);
            Check.due("sent(0, " + strange + ")", Check.sent(x, 0, strange), Check.ARGUMENT);
        }
        sent("after wrong ones", x, 0, -1000, 0, -995);
    }
}
