/** Counts and prints the answers that are not due; what a call throws counts as an answer too. */
final class Check {
    static final String STATE = "throws.IllegalStateException";
    static final String ARGUMENT = "throws.IllegalArgumentException";
    static final String ARITHMETIC = "throws.ArithmeticException";

    private static int wrong = 0;
    private static int asked = 0;
    private static int sentences = 0;
    private static String sentence = "";

    private Check() {}

    /** The document's sentence that the answers from here on are asked for. */
    static void sentence(String text) {
        sentences++;
        sentence = text + " | ";
    }

    static void due(String call, Object got, Object want) {
        asked++;
        // Compared as texts, so that an int and a long of the same value are the same answer.
        if (!String.valueOf(got).equals(String.valueOf(want))) {
            wrong++;
            System.out.println(sentence + call + " answered " + got + ", due is " + want);
        }
    }

    static Object grow(GrowDecoder x) {
        try {
            return x.grow();
        } catch (RuntimeException e) {
            return "throws." + e.getClass().getSimpleName();
        }
    }

    static Object sent(GrowDecoder x, int edge, int side) {
        try {
            return x.sent(edge, side);
        } catch (RuntimeException e) {
            return "throws." + e.getClass().getSimpleName();
        }
    }

    /** An object with a point for each letter: b a boundary, f a fired one, any other an inner one. */
    static GrowDecoder points(String letters) {
        GrowDecoder x = new GrowDecoder();
        for (int i = 0; i < letters.length(); i++) {
            x.point(letters.charAt(i) == 'b');
            if (letters.charAt(i) == 'f') {
                x.fire(i, true);
            }
        }
        return x;
    }

    static void edges(GrowDecoder x, int... ends) {
        for (int i = 0; i + 2 < ends.length; i += 3) {
            if (x.edge(ends[i], ends[i + 1], ends[i + 2]) == GrowDecoder.NONE) {
                due("edge " + i / 3 + " of a test", "refused", "taken");
            }
        }
    }

    /** All that can be asked of an object, so that what a call has changed can be seen. */
    static String all(GrowDecoder x) {
        StringBuilder all = new StringBuilder();
        for (int what = 0; what < 5; what++) {
            all.append(" total ").append(x.total(what));
        }
        for (int p = 0; p < x.total(0); p++) {
            all.append(" cluster ").append(x.cluster(p));
        }
        for (int e = 0; e < x.total(1); e++) {
            all.append(" size ").append(x.size(e)).append(" syndrome ").append(x.syndrome(1L << e));
            for (int side = 0; side < 3; side++) {
                all.append(" sent ").append(sent(x, e, side));
            }
        }
        all.append(" grown ").append(x.grown(0)).append(' ').append(x.grown(1));
        all.append(" guess ").append(x.guess()).append(" answer ").append(x.answer());
        return all.append(" chosen ").append(x.chosen()).toString();
    }

    static void done() {
        String of = sentences == 0 ? "" : " for " + sentences + " sentences";
        System.out.println(asked + " answers" + of + ", " + wrong + " not as due");
        if (wrong != 0 || asked == 0) {
            System.exit(1);
        }
    }
}
