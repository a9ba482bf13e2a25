import java.util.Random;

/** All promises: long runs of calls, the same ones each time, against the slow model's answers. */
public final class ModelTest {
    private static final int RUNS = 1200;
    private static final int CALLS = 300;

    private final Random random;
    private final GrowDecoder x = new GrowDecoder();
    private final SlowModel m = new SlowModel();
    private final int mostPoints;
    private final int mostLength;
    private final int boundaryEvery;
    private String name = "";

    private ModelTest(int seed) {
        random = new Random(seed);
        mostPoints = 2 + random.nextInt(seed % 4 == 0 ? 31 : 9);
        mostLength = seed % 3 == 0 ? 20 : 1 + random.nextInt(6);
        boundaryEvery = 2 + random.nextInt(8);
    }

    public static void main(String[] args) {
        for (int seed = 0; seed < RUNS; seed++) {
            ModelTest test = new ModelTest(seed);
            for (int call = 0; call < CALLS; call++) {
                test.name = "seed " + seed + ", call " + call + ": ";
                test.step();
            }
        }
        Check.done();
    }

    private void step() {
        int kind = random.nextInt(100);
        if (kind < 40 && build(kind)) {
            return;
        }
        if (kind < 55) {
            grow();
        } else if (kind < 75) {
            believe();
        } else if (kind < 90) {
            Check.due(name + "answer()", x.answer(), m.answer());
            Check.due(name + "chosen()", x.chosen(), m.chosen());
        } else {
            askAside();
        }
    }

    private boolean build(int kind) {
        if (kind < 10 && m.boundary.size() < mostPoints) {
            boolean boundary = random.nextInt(boundaryEvery) == 0;
            Check.due(name + "point", x.point(boundary), m.point(boundary));
            return true;
        }
        int p = anyPoint();
        if (kind < 25) {
            int q = anyPoint();
            int length = random.nextInt(30) == 0 ? random.nextInt(25) - 2 : 1 + random.nextInt(mostLength);
            Check.due(name + "edge", x.edge(p, q, length), m.edge(p, q, length));
            return true;
        }
        boolean on = random.nextInt(3) > 0;
        Check.due(name + "fire", x.fire(p, on), m.fire(p, on));
        return true;
    }

    private int anyPoint() {
        return random.nextInt(40) == 0 ? random.nextInt(36) - 3 : random.nextInt(m.boundary.size() + 1);
    }

    private void grow() {
        if (random.nextInt(3) > 0) {
            Check.due(name + "grow()", Check.grow(x), m.grow());
        }
        for (int p = -1; p <= m.boundary.size(); p++) {
            Check.due(name + "cluster(" + p + ")", x.cluster(p), m.cluster(p));
        }
        for (int e = -1; e <= m.edges.size(); e++) {
            Check.due(name + "size(" + e + ")", x.size(e), m.size(e));
        }
        for (int what = -1; what < 3; what++) {
            Check.due(name + "grown(" + what + ")", x.grown(what), m.grown(what));
        }
    }

    private void believe() {
        if (random.nextInt(3) > 0) {
            int turns = random.nextInt(42);
            Check.due(name + "believe(" + turns + ")", x.believe(turns), m.believe(turns));
        }
        for (int e = -1; e <= m.edges.size(); e++) {
            int side = random.nextInt(5) - 1;
            Check.due(name + "sent(" + e + ", " + side + ")", Check.sent(x, e, side), m.sent(e, side));
        }
        Check.due(name + "guess()", x.guess(), m.guess());
    }

    private void askAside() {
        long set = random.nextLong() >>> random.nextInt(64);
        set = random.nextBoolean() ? set & ((1L << m.edges.size()) - 1) : set;
        Check.due(name + "syndrome(" + set + ")", x.syndrome(set), m.syndrome(set));
        for (int what = -1; what < 6; what++) {
            Check.due(name + "total(" + what + ")", x.total(what), m.total(what));
        }
    }
}
