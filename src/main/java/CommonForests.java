/**
 * Graphs with weighted edges: which sets of edges are forests, the best of these, and the largest
 * sets that are forests in two graphs at once, with what shows that there are no larger ones.
 *
 * <p>An edge is held as its line: the bits of its two ends, added without carry, so that a loop is
 * 0. The lines of a set add up to 0 just when the set meets each vertex an even number of times, so
 * a set is a forest just when no part of it but the empty one adds up to 0.
 */
public final class CommonForests {
    public static final int NONE = -1;

    private static final int GRAPHS = 8;
    private static final int MOST_VERTICES = 13;
    private static final int MOST_EDGES = 12;
    private static final int MOST_WEIGHT = 999;

    private final Graph[] graphs = new Graph[GRAPHS];
    private final Forest first = new Forest();
    private final Forest second = new Forest();
    private final int[] draft = new int[MOST_EDGES];

    public CommonForests() {
        for (int g = 0; g < GRAPHS; g++) {
            graphs[g] = new Graph();
        }
    }

    public boolean begin(int g, int vertices) {
        if (!isGraph(g) || vertices < 1 || vertices > MOST_VERTICES) {
            return false;
        }
        graphs[g].restart(vertices);
        return true;
    }

    public int add(int g, int a, int b) {
        if (!isGraph(g)) {
            return NONE;
        }
        Graph graph = graphs[g];
        boolean canMeetBoth = graph.canMeet(a) && graph.canMeet(b);
        return canMeetBoth ? graph.append((1 << a) ^ (1 << b)) : NONE;
    }

    public boolean weigh(int g, int e, int weight) {
        if (!isEdge(g, e) || weight < -MOST_WEIGHT || weight > MOST_WEIGHT) {
            return false;
        }
        graphs[g].weights[e] = weight;
        return true;
    }

    public int leave(int to, int g, int set, boolean joined) {
        if (!isGraph(to) || !isSet(g, set)) {
            return NONE;
        }
        Graph graph = graphs[g];
        // Taking the rest of a line puts one vertex for all that the set ties together.
        first.fill(graph, joined ? set : 0);
        int count = 0;
        for (int e = 0; e < graph.count; e++) {
            if (!has(set, e)) {
                draft[count] = first.rest(graph.lines[e]);
                count++;
            }
        }
        graphs[to].become(draft, count);
        return count;
    }

    public int beside(int to, int g, int h) {
        if (!isGraph(to) || !isGraph(g) || !isGraph(h)) {
            return NONE;
        }
        int before = graphs[g].count;
        int count = before + graphs[h].count;
        if (count > MOST_EDGES) {
            return NONE;
        }
        draftPacked(graphs[g], 0, 0);
        draftPacked(graphs[h], before, Integer.bitCount(graphs[g].met()));
        graphs[to].become(draft, count);
        return count;
    }

    public int edges(int g) {
        return isGraph(g) ? graphs[g].count : NONE;
    }

    public int weight(int g, int e) {
        return isEdge(g, e) ? graphs[g].weights[e] : 0;
    }

    public int rank(int g, int set) {
        return isSet(g, set) ? first.fill(graphs[g], set) : NONE;
    }

    public int best(int g) {
        if (!isGraph(g)) {
            return NONE;
        }
        Graph graph = graphs[g];
        int untried = all(graph.count);
        int forest = 0;
        first.clear();
        for (int turn = 0; turn < graph.count; turn++) {
            int e = graph.heaviest(untried);
            untried &= ~(1 << e);
            if (first.takes(e, graph.lines[e])) {
                forest |= 1 << e;
            }
        }
        return forest;
    }

    public int common(int g, int h) {
        return areAlike(g, h) ? largestInBoth(graphs[g], graphs[h]) : NONE;
    }

    public int cover(int g, int h) {
        return areAlike(g, h) ? leastCover(graphs[g], graphs[h]) : NONE;
    }

    private static boolean isGraph(int g) {
        return g >= 0 && g < GRAPHS;
    }

    private boolean isEdge(int g, int e) {
        return isGraph(g) && e >= 0 && e < graphs[g].count;
    }

    private boolean isSet(int g, int set) {
        return isGraph(g) && set >= 0 && set <= all(graphs[g].count);
    }

    private boolean areAlike(int g, int h) {
        return isGraph(g) && isGraph(h) && graphs[g].count == graphs[h].count;
    }

    private static int all(int count) {
        return (1 << count) - 1;
    }

    private static boolean has(int set, int e) {
        return (set >> e & 1) != 0;
    }

    /**
     * Only the vertices that edges meet are kept, 24 at most: a row of calls of beside could
     * otherwise heap up more vertices than a line has bits.
     */
    private void draftPacked(Graph graph, int at, int shift) {
        int met = graph.met();
        for (int e = 0; e < graph.count && at + e < MOST_EDGES; e++) {
            draft[at + e] = packed(graph.lines[e], met) << shift;
        }
    }

    private static int packed(int line, int met) {
        if (line == 0) {
            return 0;
        }
        int low = line & -line;
        int high = line ^ low;
        return 1 << Integer.bitCount(met & (low - 1)) | 1 << Integer.bitCount(met & (high - 1));
    }

    private int largestInBoth(Graph g, Graph h) {
        int limit = Math.min(first.fill(g, all(g.count)), second.fill(h, all(h.count)));
        first.clear();
        second.clear();
        return searched(g, h, 0, 0, 0, limit);
    }

    /**
     * Sets with an edge are tried before those without it, so of sets with as many edges the first
     * in ORDER is met first; and only a larger set takes the place of the one found.
     */
    private int searched(Graph g, Graph h, int e, int set, int found, int limit) {
        int reach = Math.min(limit, Integer.bitCount(set) + g.count - e);
        if (reach <= Integer.bitCount(found)) {
            return found;
        }
        if (e >= g.count) {
            return set;
        }
        int larger = found;
        if (first.takes(e, g.lines[e])) {
            if (second.takes(e, h.lines[e])) {
                larger = searched(g, h, e + 1, set | 1 << e, found, limit);
                second.drop();
            }
            first.drop();
        }
        return searched(g, h, e + 1, set, larger, limit);
    }

    /**
     * The common set has as many edges as a cover's two ranks make, so its edges within the cover
     * span the cover in g, and its other edges span all the others in h. What that forces into
     * every cover, beginning with the edges that the common set does not span in h, is one itself.
     */
    private int leastCover(Graph g, Graph h) {
        int common = largestInBoth(g, h);
        first.fill(g, common);
        second.fill(h, common);
        int cover = 0;
        for (int e = 0; e < h.count; e++) {
            if (second.rest(h.lines[e]) != 0) {
                cover |= 1 << e;
            }
        }
        // A round that adds nothing is the last one of use, and each other adds an edge.
        for (int round = 0; round < g.count; round++) {
            cover = grown(g, h, common, cover);
        }
        return cover;
    }

    private int grown(Graph g, Graph h, int common, int cover) {
        int more = cover;
        for (int e = 0; e < g.count; e++) {
            if (has(common, e)) {
                continue;
            }
            if (has(more, e)) {
                more |= first.way(g.lines[e]);
            } else if ((second.way(h.lines[e]) & more) != 0) {
                more |= 1 << e;
            }
        }
        return more;
    }

    private static final class Graph {
        final int[] lines = new int[MOST_EDGES];
        final int[] weights = new int[MOST_EDGES];
        int count = 0;
        int vertices = 1;
        boolean open = true;

        void restart(int newVertices) {
            open = true;
            vertices = newVertices;
            count = 0;
        }

        boolean canMeet(int vertex) {
            return open && vertex >= 0 && vertex < vertices;
        }

        int append(int line) {
            if (count >= MOST_EDGES) {
                return NONE;
            }
            lines[count] = line;
            weights[count] = 0;
            count++;
            return count - 1;
        }

        /** How many vertices it has need not be known, as only an open graph is added to. */
        void become(int[] newLines, int newCount) {
            open = false;
            count = 0;
            for (int e = 0; e < newCount && e < newLines.length; e++) {
                append(newLines[e]);
            }
        }

        int met() {
            int met = 0;
            for (int e = 0; e < count; e++) {
                met |= lines[e];
            }
            return met;
        }

        /** Of edges that weigh the same the least: so the best forest is the first in ORDER. */
        int heaviest(int set) {
            int most = -MOST_WEIGHT - 1;
            int heaviest = 0;
            for (int e = 0; e < count; e++) {
                if (has(set, e) && weights[e] > most) {
                    most = weights[e];
                    heaviest = e;
                }
            }
            return heaviest;
        }
    }

    /**
     * A forest that edges are put to and taken from at the end. Each row is the sum of the lines of
     * the edges in its part, and lacks the highest bit of every row before it: so one pass over the
     * rows takes all those bits out of a line.
     */
    private static final class Forest {
        final int[] rows = new int[MOST_EDGES];
        final int[] parts = new int[MOST_EDGES];
        int size = 0;

        void clear() {
            size = 0;
        }

        int fill(Graph graph, int set) {
            clear();
            for (int e = 0; e < graph.count; e++) {
                if (has(set, e)) {
                    takes(e, graph.lines[e]);
                }
            }
            return size;
        }

        /** An edge that would close a ring is not taken. */
        boolean takes(int e, int line) {
            int rest = rest(line);
            if (rest == 0 || size >= MOST_EDGES) {
                return false;
            }
            parts[size] = way(line) ^ (1 << e);
            rows[size] = rest;
            size++;
            return true;
        }

        void drop() {
            if (size > 0) {
                size--;
            }
        }

        /** What is left of a line when all that the forest ties together is one vertex. */
        int rest(int line) {
            int rest = line;
            for (int i = 0; i < size; i++) {
                rest = Math.min(rest, rest ^ rows[i]);
            }
            return rest;
        }

        /** The edges that turn a line into its rest: if that is 0, the way between the line's ends. */
        int way(int line) {
            int rest = line;
            int way = 0;
            for (int i = 0; i < size; i++) {
                if ((rest ^ rows[i]) < rest) {
                    rest ^= rows[i];
                    way ^= parts[i];
                }
            }
            return way;
        }
    }
}
