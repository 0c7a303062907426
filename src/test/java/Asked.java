/**
 * An object under test that is asked with the due answer before each call, as in
 * due(NONE).add(0, 1, 2), and that tells the sentence of the document that a wrong answer breaks.
 */
final class Asked {
    private static final int MOST_CALLS = 512;

    private final CommonForests x = new CommonForests();
    private final Check check;
    private final String sentence;
    private long want = 0;
    private int calls = 0;

    Asked(Check check, String sentence) {
        this.check = check;
        this.sentence = sentence;
    }

    Asked due(int answer) {
        want = answer;
        return this;
    }

    Asked due(boolean answer) {
        want = answer ? 1 : 0;
        return this;
    }

    int calls() {
        return calls;
    }

    void begin(int g, int vertices) {
        answered("begin(" + g + ", " + vertices + ")", x.begin(g, vertices) ? 1 : 0);
    }

    void add(int g, int a, int b) {
        answered("add(" + g + ", " + a + ", " + b + ")", x.add(g, a, b));
    }

    void weigh(int g, int e, int weight) {
        answered("weigh(" + g + ", " + e + ", " + weight + ")", x.weigh(g, e, weight) ? 1 : 0);
    }

    void leave(int to, int g, int set, boolean joined) {
        answered("leave(" + to + ", " + g + ", " + set + ", " + joined + ")", x.leave(to, g, set, joined));
    }

    void beside(int to, int g, int h) {
        answered("beside(" + to + ", " + g + ", " + h + ")", x.beside(to, g, h));
    }

    void edges(int g) {
        answered("edges(" + g + ")", x.edges(g));
    }

    void weight(int g, int e) {
        answered("weight(" + g + ", " + e + ")", x.weight(g, e));
    }

    void rank(int g, int set) {
        answered("rank(" + g + ", " + set + ")", x.rank(g, set));
    }

    void best(int g) {
        answered("best(" + g + ")", x.best(g));
    }

    void common(int g, int h) {
        answered("common(" + g + ", " + h + ")", x.common(g, h));
    }

    void cover(int g, int h) {
        answered("cover(" + g + ", " + h + ")", x.cover(g, h));
    }

    /** Begins graph g and adds an edge for each two numbers. */
    Asked graph(int g, int vertices, int... ends) {
        due(true).begin(g, vertices);
        for (int i = 0; i + 1 < ends.length; i += 2) {
            due(i / 2).add(g, ends[i], ends[i + 1]);
        }
        return this;
    }

    /** Twelve edges on the thirteen vertices, which are a forest. */
    Asked path(int g) {
        graph(g, 13);
        for (int e = 0; e < 12; e++) {
            due(e).add(g, e, e + 1);
        }
        return this;
    }

    /** Twelve edges, of which any eleven are a forest. */
    Asked ring(int g) {
        graph(g, 12);
        for (int e = 0; e < 12; e++) {
            due(e).add(g, e, (e + 1) % 12);
        }
        return this;
    }

    Asked loops(int g, int count) {
        graph(g, 1);
        for (int e = 0; e < count; e++) {
            due(e).add(g, 0, 0);
        }
        return this;
    }

    private void answered(String call, long got) {
        calls++;
        // What comes after the 512th call is free, so a test must not lean on it.
        check.due(sentence + ": calls of one object within 512", calls <= MOST_CALLS, true);
        check.due(sentence + ": call " + calls + ", " + call, got, want);
    }
}
