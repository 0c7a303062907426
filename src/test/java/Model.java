import java.util.ArrayList;
import java.util.HashMap;
import java.util.List;
import java.util.Map;

/** The document said once more, by trying all sets; it shares no idea with the class under test. */
final class Model {
    static final int NONE = -1;

    private static final class Edge {
        final int a;
        final int b;
        int weight = 0;

        Edge(int a, int b) {
            this.a = a;
            this.b = b;
        }
    }

    private static final class Graph {
        List<Edge> edges = new ArrayList<>();
        int vertices = 1;
        boolean open = true;
        int[] ranks = null;
    }

    private final Graph[] graphs = new Graph[8];
    private int nextVertex = 1000;

    Model() {
        for (int g = 0; g < 8; g++) {
            graphs[g] = new Graph();
        }
    }

    boolean begin(int g, int vertices) {
        if (none(g) || vertices < 1 || vertices > 13) {
            return false;
        }
        graphs[g] = new Graph();
        graphs[g].vertices = vertices;
        return true;
    }

    int add(int g, int a, int b) {
        if (none(g) || !graphs[g].open || graphs[g].edges.size() == 12) {
            return NONE;
        }
        int v = graphs[g].vertices;
        if (a < 0 || b < 0 || a >= v || b >= v) {
            return NONE;
        }
        graphs[g].edges.add(new Edge(a, b));
        graphs[g].ranks = null;
        return graphs[g].edges.size() - 1;
    }

    boolean weigh(int g, int e, int weight) {
        if (none(g) || e < 0 || e >= edges(g) || weight < -999 || weight > 999) {
            return false;
        }
        graphs[g].edges.get(e).weight = weight;
        return true;
    }

    int leave(int to, int g, int set, boolean joined) {
        if (none(to) || noSet(g, set)) {
            return NONE;
        }
        Map<Integer, Integer> name = new HashMap<>();
        for (Edge edge : graphs[g].edges) {
            name.put(edge.a, edge.a);
            name.put(edge.b, edge.b);
        }
        for (int e = 0; joined && e < edges(g); e++) {
            if ((set >> e & 1) == 1) {
                int from = name.get(graphs[g].edges.get(e).a);
                int into = name.get(graphs[g].edges.get(e).b);
                name.replaceAll((vertex, called) -> called == from ? into : called);
            }
        }
        Graph made = new Graph();
        made.open = false;
        for (int e = 0; e < edges(g); e++) {
            Edge edge = graphs[g].edges.get(e);
            if ((set >> e & 1) == 0) {
                made.edges.add(new Edge(name.get(edge.a), name.get(edge.b)));
            }
        }
        graphs[to] = made;
        return made.edges.size();
    }

    int beside(int to, int g, int h) {
        if (none(to) || none(g) || none(h) || edges(g) + edges(h) > 12) {
            return NONE;
        }
        Graph made = new Graph();
        made.open = false;
        copyApart(graphs[g], made);
        copyApart(graphs[h], made);
        graphs[to] = made;
        return made.edges.size();
    }

    private void copyApart(Graph from, Graph into) {
        Map<Integer, Integer> name = new HashMap<>();
        for (Edge edge : from.edges) {
            into.edges.add(new Edge(
                    name.computeIfAbsent(edge.a, vertex -> nextVertex++),
                    name.computeIfAbsent(edge.b, vertex -> nextVertex++)));
        }
    }

    int edges(int g) {
        return none(g) ? NONE : graphs[g].edges.size();
    }

    int weight(int g, int e) {
        return none(g) || e < 0 || e >= edges(g) ? 0 : graphs[g].edges.get(e).weight;
    }

    int rank(int g, int set) {
        return noSet(g, set) ? NONE : ranks(graphs[g])[set];
    }

    int best(int g) {
        if (none(g)) {
            return NONE;
        }
        int[] ranks = ranks(graphs[g]);
        int best = NONE;
        for (int set = 0; set < ranks.length; set++) {
            boolean isLargestForest = ranks[set] == size(set) && ranks[set] == ranks[ranks.length - 1];
            if (isLargestForest && (best == NONE || better(graphs[g], set, best))) {
                best = set;
            }
        }
        return best;
    }

    int common(int g, int h) {
        if (none(g) || none(h) || edges(g) != edges(h)) {
            return NONE;
        }
        int[] inG = ranks(graphs[g]);
        int[] inH = ranks(graphs[h]);
        int best = 0;
        for (int set = 0; set < inG.length; set++) {
            boolean isCommon = inG[set] == size(set) && inH[set] == size(set);
            boolean isBetter = size(set) > size(best)
                    || size(set) == size(best) && isBefore(set, best);
            if (isCommon && isBetter) {
                best = set;
            }
        }
        return best;
    }

    int cover(int g, int h) {
        int common = common(g, h);
        if (common == NONE) {
            return NONE;
        }
        int[] inG = ranks(graphs[g]);
        int[] inH = ranks(graphs[h]);
        int all = inG.length - 1;
        int withinAll = all;
        for (int set = 0; set <= all; set++) {
            if (inG[set] + inH[all & ~set] == size(common)) {
                withinAll &= set;
            }
        }
        if (inG[withinAll] + inH[all & ~withinAll] != size(common)) {
            throw new IllegalStateException("the document says that there is a cover");
        }
        return withinAll;
    }

    private static boolean better(Graph graph, int set, int other) {
        int sum = sum(graph, set);
        int otherSum = sum(graph, other);
        return sum > otherSum || sum == otherSum && isBefore(set, other);
    }

    private static int sum(Graph graph, int set) {
        int sum = 0;
        for (int e = 0; e < graph.edges.size(); e++) {
            sum += (set >> e & 1) * graph.edges.get(e).weight;
        }
        return sum;
    }

    /** Of two sets with as many edges. */
    private static boolean isBefore(int set, int other) {
        for (int e = 0; e < 12; e++) {
            if ((set >> e & 1) != (other >> e & 1)) {
                return (set >> e & 1) == 1;
            }
        }
        return false;
    }

    private static int size(int set) {
        return Integer.bitCount(set);
    }

    private boolean none(int g) {
        return g < 0 || g > 7;
    }

    private boolean noSet(int g, int set) {
        return none(g) || set < 0 || set >> edges(g) != 0;
    }

    private static int[] ranks(Graph graph) {
        if (graph.ranks != null) {
            return graph.ranks;
        }
        int n = graph.edges.size();
        int[] ranks = new int[1 << n];
        for (int set = 0; set < ranks.length; set++) {
            int most = isForest(graph, set) ? size(set) : 0;
            for (int e = 0; e < n; e++) {
                if ((set >> e & 1) == 1) {
                    most = Math.max(most, ranks[set & ~(1 << e)]);
                }
            }
            ranks[set] = most;
        }
        graph.ranks = ranks;
        return ranks;
    }

    /** A forest loses all its edges when, again and again, one with a free end is taken away. */
    private static boolean isForest(Graph graph, int set) {
        int left = set;
        boolean changed = true;
        while (changed) {
            changed = false;
            for (int e = 0; e < graph.edges.size(); e++) {
                if ((left >> e & 1) == 1 && hasFreeEnd(graph, left, e)) {
                    left &= ~(1 << e);
                    changed = true;
                }
            }
        }
        return left == 0;
    }

    private static boolean hasFreeEnd(Graph graph, int set, int e) {
        Edge edge = graph.edges.get(e);
        return edge.a != edge.b && (meets(graph, set, edge.a) == 1 || meets(graph, set, edge.b) == 1);
    }

    private static int meets(Graph graph, int set, int vertex) {
        int meets = 0;
        for (int e = 0; e < graph.edges.size(); e++) {
            Edge edge = graph.edges.get(e);
            if ((set >> e & 1) == 1) {
                meets += (edge.a == vertex ? 1 : 0) + (edge.b == vertex ? 1 : 0);
            }
        }
        return meets;
    }
}
