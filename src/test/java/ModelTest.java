import java.util.Random;

/** All promises: long runs of calls, the same ones each time, against the slow model's answers. */
public final class ModelTest {
    private static final int RUNS = 2500;
    // Behind so many calls an object's answers are free.
    private static final int MOST_CALLS = 512;

    private final Random random;
    private final GrowDecoder x = new GrowDecoder();
    private final SlowModel m = new SlowModel();
    private final int mostPoints;
    private final int mostLength;
    private final int boundaryEvery;
    private final int callsThatBuild;
    private final String run;
    private int calls;

    private ModelTest(int seed) {
        random = new Random(seed);
        run = "seed " + seed + ", call ";
        mostPoints = 2 + random.nextInt(seed % 4 == 0 ? 31 : 9);
        mostLength = seed % 3 == 0 ? 20 : 1 + random.nextInt(6);
        boundaryEvery = 2 + random.nextInt(8);
        callsThatBuild = random.nextInt(seed % 4 == 0 ? 200 : 60);
    }

    public static void main(String[] args) {
        for (int seed = 0; seed < RUNS; seed++) {
            ModelTest test = new ModelTest(seed);
            while (test.calls < MOST_CALLS) {
                test.step();
            }
        }
        Check.done();
    }

    private void due(String call, Object got, Object want) {
        calls++;
        if (calls <= MOST_CALLS) {
            Check.due(run + calls + ": " + call, got, want);
        }
    }

    private void step() {
        int kind = random.nextInt(calls < callsThatBuild ? 40 : 100);
        if (kind < 40) {
            build(kind);
        } else if (kind < 55) {
            grow();
        } else if (kind < 75) {
            believe();
        } else if (kind < 90) {
            due("answer()", x.answer(), m.answer());
            due("chosen()", x.chosen(), m.chosen());
        } else {
            askAside();
        }
    }

    private void build(int kind) {
        int p = anyPoint();
        if (kind < 10 && m.boundary.size() < mostPoints) {
            boolean boundary = random.nextInt(boundaryEvery) == 0;
            due("point", x.point(boundary), m.point(boundary));
        } else if (kind < 30) {
            int q = anyPoint();
            int length = random.nextInt(30) == 0 ? wild(26) : 1 + random.nextInt(mostLength);
            due("edge", x.edge(p, q, length), m.edge(p, q, length));
        } else {
            boolean on = random.nextInt(3) > 0;
            due("fire", x.fire(p, on), m.fire(p, on));
        }
    }

    private int anyPoint() {
        return random.nextInt(40) == 0 ? wild(36) : random.nextInt(m.boundary.size() + 1);
    }

    private int anyEdge() {
        return random.nextInt(20) == 0 ? wild(70) : random.nextInt(m.edges.size() + 1);
    }

    /** Mostly a number about 0 .. most, at times any int: a bit or an index of it would go astray. */
    private int wild(int most) {
        return random.nextInt(4) == 0 ? random.nextInt() : random.nextInt(most) - 3;
    }

    private void grow() {
        if (random.nextInt(3) > 0) {
            due("grow()", Check.grow(x), m.grow());
        }
        for (int i = 0; i < 4; i++) {
            int p = anyPoint();
            int e = anyEdge();
            due("cluster(" + p + ")", x.cluster(p), m.cluster(p));
            due("size(" + e + ")", x.size(e), m.size(e));
        }
        for (int what = -1; what < 3; what++) {
            due("grown(" + what + ")", x.grown(what), m.grown(what));
        }
        int what = wild(8);
        due("grown(" + what + ")", x.grown(what), m.grown(what));
    }

    private void believe() {
        if (random.nextInt(3) > 0) {
            int turns = random.nextInt(40) == 0 ? wild(48) : random.nextInt(42);
            due("believe(" + turns + ")", x.believe(turns), m.believe(turns));
        }
        for (int i = 0; i < 6; i++) {
            int e = anyEdge();
            int side = random.nextInt(20) == 0 ? wild(8) : random.nextInt(3);
            due("sent(" + e + ", " + side + ")", Check.sent(x, e, side), m.sent(e, side));
        }
        due("guess()", x.guess(), m.guess());
    }

    private void askAside() {
        long set = random.nextLong() >>> random.nextInt(64);
        set = random.nextBoolean() ? set & ((1L << m.edges.size()) - 1) : set;
        due("syndrome(" + set + ")", x.syndrome(set), m.syndrome(set));
        for (int what = -1; what < 6; what++) {
            due("total(" + what + ")", x.total(what), m.total(what));
        }
        int what = wild(10);
        due("total(" + what + ")", x.total(what), m.total(what));
    }
}
