import java.util.ArrayList;
import java.util.Comparator;
import java.util.HashMap;
import java.util.List;
import java.util.Map;
import java.util.Set;
import java.util.TreeSet;

/**
 * The document's terms read word by word, with sets and floods and no thought of speed; it shares
 * no way of reckoning with the class, so that a slip in one is not in the other.
 */
final class SlowModel {
    record Edge(int number, int a, int b, int length) {
        int other(int end) {
            return end == a ? b : a;
        }
    }

    final List<Boolean> boundary = new ArrayList<>();
    final List<Edge> edges = new ArrayList<>();
    final Set<Integer> fired = new TreeSet<>();

    private List<Set<Integer>> clusters;
    private int[] sizes;
    private Set<Integer> branches;
    private Set<Integer> fix;
    private int rounds;

    /** What the first end (at 2 * edge) and the other end (at 2 * edge + 1) sent; null if nothing holds. */
    private Map<Integer, Integer> sent;

    int point(boolean isBoundary) {
        if (boundary.size() == 30) {
            return -1;
        }
        sent = null;
        boundary.add(isBoundary);
        return boundary.size() - 1;
    }

    private boolean there(int p) {
        return p >= 0 && p < boundary.size();
    }

    int edge(int a, int b, int length) {
        if (!there(a) || !there(b) || a == b || length < 1 || length > 20 || edges.size() == 60) {
            return -1;
        }
        if (boundary.get(a) && boundary.get(b)) {
            return -1;
        }
        sent = null;
        edges.add(new Edge(edges.size(), a, b, length));
        return edges.size() - 1;
    }

    boolean fire(int p, boolean on) {
        if (!there(p) || boundary.get(p)) {
            return false;
        }
        boolean changed = on ? fired.add(p) : fired.remove(p);
        if (changed) {
            sent = null;
        }
        return changed;
    }

    private Set<Integer> clusterOf(int p) {
        for (Set<Integer> c : clusters) {
            if (c.contains(p)) {
                return c;
            }
        }
        return null;
    }

    private boolean odd(Set<Integer> cluster) {
        int count = 0;
        for (int p : cluster) {
            if (boundary.get(p)) {
                return false;
            }
            count += fired.contains(p) ? 1 : 0;
        }
        return count % 2 == 1;
    }

    Object grow() {
        clusters = new ArrayList<>();
        for (int p = 0; p < boundary.size(); p++) {
            clusters.add(new TreeSet<>(Set.of(p)));
        }
        sizes = new int[edges.size()];
        branches = new TreeSet<>();
        fix = new TreeSet<>();
        rounds = 0;
        while (clusters.stream().anyMatch(this::odd)) {
            rounds++;
            if (!round()) {
                return Check.ARITHMETIC;
            }
        }
        for (int e : branches) {
            if (partsOdd(e)) {
                fix.add(e);
            }
        }
        return rounds;
    }

    private boolean round() {
        List<Edge> come = new ArrayList<>();
        boolean any = false;
        for (Edge e : edges) {
            if (sizes[e.number] < e.length) {
                int gets = (odd(clusterOf(e.a)) ? 1 : 0) + (odd(clusterOf(e.b)) ? 1 : 0);
                any |= gets > 0;
                sizes[e.number] += gets;
                if (sizes[e.number] >= e.length) {
                    come.add(e);
                }
            }
        }
        for (Edge e : come) {
            Set<Integer> a = clusterOf(e.a);
            Set<Integer> b = clusterOf(e.b);
            if (a != b) {
                clusters.remove(b);
                a.addAll(b);
                branches.add(e.number);
            }
        }
        return any;
    }

    private boolean partsOdd(int branch) {
        Set<Integer> cluster = clusterOf(edges.get(branch).a);
        int root = cluster.stream().filter(boundary::get).findFirst().orElse(cluster.iterator().next());
        Set<Integer> rest = new TreeSet<>(branches);
        rest.remove(branch);
        Set<Integer> parted = new TreeSet<>(cluster);
        parted.removeAll(flood(root, rest));
        parted.retainAll(fired);
        return parted.size() % 2 == 1;
    }

    private Set<Integer> flood(int from, Set<Integer> ways) {
        Set<Integer> seen = new TreeSet<>(Set.of(from));
        boolean more = true;
        while (more) {
            more = false;
            for (int e : ways) {
                Edge way = edges.get(e);
                if (seen.contains(way.a) || seen.contains(way.b)) {
                    more |= seen.add(way.a);
                    more |= seen.add(way.b);
                }
            }
        }
        return seen;
    }

    int cluster(int p) {
        Set<Integer> c = clusters == null ? null : clusterOf(p);
        return c == null ? -1 : c.iterator().next();
    }

    int size(int e) {
        return clusters == null || e < 0 || e >= sizes.length ? -1 : sizes[e];
    }

    long grown(int what) {
        if (what != 0 && what != 1) {
            return -1;
        }
        return clusters == null ? 0 : bits(what == 0 ? branches : fix);
    }

    private static long bits(Set<Integer> set) {
        long all = 0;
        for (int member : set) {
            all += 1L << member;
        }
        return all;
    }

    int believe(int turns) {
        if (turns < 1 || turns > 40) {
            return -1;
        }
        sent = new HashMap<>();
        for (Edge e : edges) {
            sent.put(2 * e.number, 0);
            sent.put(2 * e.number + 1, 0);
        }
        for (int turn = 1; turn <= turns; turn++) {
            takeTurn();
            if (syndromeOf(guessed()).equals(fired)) {
                return turn;
            }
        }
        return 0;
    }

    private void takeTurn() {
        Map<Integer, Integer> got = new HashMap<>();
        for (Edge e : edges) {
            got.put(2 * e.number, e.length + sent.get(2 * e.number + 1));
            got.put(2 * e.number + 1, e.length + sent.get(2 * e.number));
        }
        for (Edge e : edges) {
            sent.put(2 * e.number, sends(e.a, e, got));
            sent.put(2 * e.number + 1, sends(e.b, e, got));
        }
    }

    private int sends(int p, Edge to, Map<Integer, Integer> got) {
        if (boundary.get(p)) {
            return 0;
        }
        int least = Integer.MAX_VALUE;
        int below = 0;
        for (Edge e : edges) {
            if (e != to && (e.a == p || e.b == p)) {
                int number = got.get(2 * e.number + (e.a == p ? 0 : 1));
                least = Math.min(least, Math.abs(number));
                below += number < 0 ? 1 : 0;
            }
        }
        least = least > 1000 ? 1000 : least;
        return below % 2 == (fired.contains(p) ? 0 : 1) ? -least : least;
    }

    private int beliefOf(Edge e) {
        return e.length + sent.get(2 * e.number) + sent.get(2 * e.number + 1);
    }

    private Set<Integer> guessed() {
        Set<Integer> set = new TreeSet<>();
        for (Edge e : edges) {
            if (beliefOf(e) < 0) {
                set.add(e.number);
            }
        }
        return set;
    }

    private Set<Integer> syndromeOf(Set<Integer> set) {
        Set<Integer> odd = new TreeSet<>();
        for (int p = 0; p < boundary.size(); p++) {
            int ends = 0;
            for (int e : set) {
                ends += edges.get(e).a == p || edges.get(e).b == p ? 1 : 0;
            }
            if (!boundary.get(p) && ends % 2 == 1) {
                odd.add(p);
            }
        }
        return odd;
    }

    Object sent(int e, int side) {
        if (sent == null) {
            return Check.STATE;
        }
        if (e < 0 || e >= edges.size() || side < 0 || side > 2) {
            return Check.ARGUMENT;
        }
        return side == 2 ? beliefOf(edges.get(e)) : sent.get(2 * e + side);
    }

    long guess() {
        return sent == null ? 0 : bits(guessed());
    }

    /** With all boundaries taken for one point, a set depends on itself just if it closes a ring. */
    private Set<Integer> choose() {
        List<Edge> ordered = new ArrayList<>(edges);
        Comparator<Edge> by = Comparator.comparingInt(e -> sent == null ? e.length : beliefOf(e));
        ordered.sort(by.thenComparingInt(Edge::number));
        Set<Integer> chosen = new TreeSet<>();
        for (Edge e : ordered) {
            if (!reached(e.a, chosen).contains(e.b)) {
                chosen.add(e.number);
            }
        }
        return chosen;
    }

    private Set<Integer> reached(int from, Set<Integer> ways) {
        Set<Integer> seen = flood(from, ways);
        if (seen.stream().anyMatch(boundary::get)) {
            for (int p = 0; p < boundary.size(); p++) {
                if (boundary.get(p)) {
                    seen.addAll(flood(p, ways));
                }
            }
        }
        return seen;
    }

    long answer() {
        Set<Integer> chosen = choose();
        Set<Integer> set = new TreeSet<>();
        for (int e : chosen) {
            Set<Integer> rest = new TreeSet<>(chosen);
            rest.remove(e);
            Set<Integer> parted = reached(edges.get(e).a, rest);
            if (parted.stream().anyMatch(boundary::get)) {
                parted = reached(edges.get(e).b, rest);
            }
            parted.retainAll(fired);
            if (parted.size() % 2 == 1) {
                set.add(e);
            }
        }
        return syndromeOf(set).equals(fired) ? bits(set) : -1;
    }

    int chosen() {
        return choose().size();
    }

    int syndrome(long set) {
        Set<Integer> members = new TreeSet<>();
        for (int e = 0; e < 64; e++) {
            if ((set >>> e) % 2 != 0) {
                members.add(e);
            }
        }
        return members.stream().anyMatch(e -> e >= edges.size()) ? -1 : (int) bits(syndromeOf(members));
    }

    int total(int what) {
        return switch (what) {
            case 0 -> boundary.size();
            case 1 -> edges.size();
            case 2 -> (int) bits(fired);
            case 3 -> clusters == null ? 0 : clusters.size();
            case 4 -> rounds;
            default -> -1;
        };
    }
}
