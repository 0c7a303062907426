/**
 * "A call that is refused changes nothing.": after each kind of refused call, told by the sentence
 * that refuses it, an object answers all that a twin answers which was not asked so. And calls that
 * only ask change nothing either.
 */
public final class RefusedTest {
    private static final Check CHECK = new Check();
    private static final int NONE = CommonForests.NONE;
    private static final int MOST = Integer.MAX_VALUE;
    private static final int LEAST = Integer.MIN_VALUE;
    private static final int[] NO_GRAPHS = {-1, 8, 32, MOST, LEAST};
    private static final int MOST_CALLS = 512;

    private interface Call {
        long of(CommonForests x);
    }

    /** An object, and how many calls it has had, as what comes after the 512th is free. */
    private static final class Subject {
        final CommonForests x = new CommonForests();
        int calls = 0;

        long ask(Call call) {
            calls++;
            return call.of(x);
        }
    }

    public static void main(String[] args) {
        begin();
        add();
        weigh();
        leave();
        beside();
        asksOfNoGraph();
        asksOfWrongSets();
        asksThatAreAnswered();
        CHECK.end();
    }

    /** Open and not, empty and full, with one vertex and with thirteen, weighted and not. */
    private static Subject subject() {
        Subject s = new Subject();
        triangle(s, 0);
        s.ask(x -> x.begin(1, 13) ? 1 : 0);
        for (int e = 0; e < 12; e++) {
            int end = e;
            s.ask(x -> x.add(1, end, end + 1));
        }
        s.ask(x -> x.weigh(1, 11, -999) ? 1 : 0);
        s.ask(x -> x.leave(2, 0, 1, true));
        s.ask(x -> x.weigh(2, 1, 999) ? 1 : 0);
        s.ask(x -> x.beside(3, 0, 0));
        s.ask(x -> x.begin(4, 13) ? 1 : 0);
        s.ask(x -> x.beside(5, 6, 7));
        return s;
    }

    private static void triangle(Subject s, int g) {
        s.ask(x -> x.begin(g, 3) ? 1 : 0);
        s.ask(x -> x.add(g, 0, 1));
        s.ask(x -> x.add(g, 1, 2));
        s.ask(x -> x.add(g, 2, 0));
        for (int e = 0; e < 3; e++) {
            int edge = e;
            s.ask(x -> x.weigh(g, edge, edge + 1) ? 1 : 0);
        }
    }

    /** All that can be told apart: the adding comes last, as it changes the object. */
    private static String answers(Subject s) {
        StringBuilder told = new StringBuilder();
        for (int i = 0; i < 8; i++) {
            int g = i;
            long edges = s.ask(x -> x.edges(g));
            told.append("\ngraph ").append(g).append(" edges ").append(edges);
            told.append(" best ").append(s.ask(x -> x.best(g))).append(" weights");
            for (int e = 0; e < edges; e++) {
                int edge = e;
                told.append(' ').append(s.ask(x -> x.weight(g, edge)));
            }
            told.append(" ranks");
            int step = edges > 3 ? 61 : 1;
            for (int n = 0; n < 1 << edges; n += step) {
                int set = n;
                told.append(' ').append(s.ask(x -> x.rank(g, set)));
            }
            int h = (g + 1) % 8;
            told.append(" common ").append(s.ask(x -> x.common(g, h)));
            told.append(" cover ").append(s.ask(x -> x.cover(g, h)));
            told.append(" with itself ").append(s.ask(x -> x.cover(g, g)));
        }
        for (int i = 0; i < 8; i++) {
            int g = i;
            told.append("\ngraph ").append(g).append(" adds");
            for (int v = 13; v >= 0; v--) {
                int end = v;
                told.append(' ').append(s.ask(x -> x.add(g, end, 0)));
            }
            int last = (int) s.ask(x -> x.edges(g)) - 1;
            told.append(" the last weighs ").append(s.ask(x -> x.weight(g, last)));
        }
        return told.toString();
    }

    private static void refused(String sentence, String call, long want, Call refused) {
        Subject asked = subject();
        CHECK.due(sentence + ": " + call, asked.ask(refused), want);
        unchanged(sentence + ": " + call, asked);
    }

    private static void unchanged(String what, Subject asked) {
        String got = answers(asked);
        String due = answers(subject());
        CHECK.due(what + " changes nothing", got.equals(due), true);
        if (!got.equals(due)) {
            System.out.println("answers then:" + got + "\nanswers due:" + due);
        }
        CHECK.due(what + ": calls within 512, not " + asked.calls, asked.calls <= MOST_CALLS, true);
    }

    private static void begin() {
        int[] wrong = {0, 14, -1, 33, MOST, LEAST};
        for (int g = 0; g < 8; g++) {
            int graph = g;
            for (int vertices : wrong) {
                refused("2: false when it is not such", "begin(" + g + ", " + vertices + ")", 0,
                        x -> x.begin(graph, vertices) ? 1 : 0);
            }
        }
        for (int g : NO_GRAPHS) {
            refused("2: false when it is not such", "begin(" + g + ", 13)", 0,
                    x -> x.begin(g, 13) ? 1 : 0);
        }
    }

    private static void add() {
        refused("3: NONE when there are 12", "add(1, 0, 1)", NONE, x -> x.add(1, 0, 1));
        refused("3: NONE when there are 12", "add(1, 12, 12)", NONE, x -> x.add(1, 12, 12));
        int[] wrong = {-1, 3, 13, 32, MOST, LEAST};
        for (int v : wrong) {
            String sentence = "3: no such vertices";
            refused(sentence, "add(0, " + v + ", 0)", NONE, x -> x.add(0, v, 0));
            refused(sentence, "add(0, 2, " + v + ")", NONE, x -> x.add(0, 2, v));
            refused(sentence, "add(0, " + v + ", " + v + ")", NONE, x -> x.add(0, v, v));
        }
        refused("3: no such vertices", "add(7, 0, 1)", NONE, x -> x.add(7, 0, 1));
        refused("3: no such vertices", "add(4, 13, 0)", NONE, x -> x.add(4, 13, 0));
        for (int g : new int[] {2, 3, 5}) {
            refused("3: or the graph is not open", "add(" + g + ", 0, 0)", NONE, x -> x.add(g, 0, 0));
        }
        for (int g : NO_GRAPHS) {
            refused("3: An open graph", "add(" + g + ", 0, 0)", NONE, x -> x.add(g, 0, 0));
        }
    }

    private static void weigh() {
        String sentence = "4: false when there is none such";
        for (int weight : new int[] {-1000, 1000, MOST, LEAST}) {
            for (int g = 0; g < 3; g++) {
                int graph = g;
                refused(sentence, "weigh(" + g + ", 1, " + weight + ")", 0,
                        x -> x.weigh(graph, 1, weight) ? 1 : 0);
            }
        }
        for (int e : new int[] {-1, 12, 32, MOST, LEAST}) {
            for (int g = 0; g < 8; g++) {
                int graph = g;
                refused(sentence, "weigh(" + g + ", " + e + ", 5)", 0,
                        x -> x.weigh(graph, e, 5) ? 1 : 0);
            }
        }
        refused(sentence, "weigh(0, 3, 5)", 0, x -> x.weigh(0, 3, 5) ? 1 : 0);
        refused(sentence, "weigh(2, 2, 5)", 0, x -> x.weigh(2, 2, 5) ? 1 : 0);
        refused(sentence, "weigh(4, 0, 5)", 0, x -> x.weigh(4, 0, 5) ? 1 : 0);
        for (int g : NO_GRAPHS) {
            refused(sentence, "weigh(" + g + ", 0, 5)", 0, x -> x.weigh(g, 0, 5) ? 1 : 0);
        }
    }

    private static void leave() {
        for (int g : NO_GRAPHS) {
            String sentence = "5: NONE when there are no such graphs";
            refused(sentence, "leave(" + g + ", 0, 1, true)", NONE, x -> x.leave(g, 0, 1, true));
            refused(sentence, "leave(0, " + g + ", 0, true)", NONE, x -> x.leave(0, g, 0, true));
            refused(sentence, "leave(" + g + ", " + g + ", 0, false)", NONE, x -> x.leave(g, g, 0, false));
        }
        for (int to = 0; to < 8; to++) {
            for (int set : new int[] {8, 9, 4096, 1 << 30, MOST}) {
                left("5: or the set has other edges", to, set);
            }
            for (int set : new int[] {-1, -8, LEAST}) {
                left("5: or is below 0", to, set);
            }
        }
        refused("5: or the set has other edges", "leave(1, 1, 4096, true)", NONE,
                x -> x.leave(1, 1, 4096, true));
        refused("5: or the set has other edges", "leave(7, 7, 1, true)", NONE,
                x -> x.leave(7, 7, 1, true));
    }

    private static void left(String sentence, int to, int set) {
        refused(sentence, "leave(" + to + ", 0, " + set + ", true)", NONE, x -> x.leave(to, 0, set, true));
        refused(sentence, "leave(" + to + ", 0, " + set + ", false)", NONE, x -> x.leave(to, 0, set, false));
    }

    private static void beside() {
        for (int g : NO_GRAPHS) {
            String sentence = "6: NONE when there are no such graphs";
            refused(sentence, "beside(" + g + ", 0, 0)", NONE, x -> x.beside(g, 0, 0));
            refused(sentence, "beside(0, " + g + ", 0)", NONE, x -> x.beside(0, g, 0));
            refused(sentence, "beside(0, 0, " + g + ")", NONE, x -> x.beside(0, 0, g));
            refused(sentence, "beside(7, " + g + ", " + g + ")", NONE, x -> x.beside(7, g, g));
        }
        for (int i = 0; i < 8; i++) {
            int to = i;
            String sentence = "6: or these would be more than 12";
            refused(sentence, "beside(" + to + ", 0, 1)", NONE, x -> x.beside(to, 0, 1));
            refused(sentence, "beside(" + to + ", 1, 2)", NONE, x -> x.beside(to, 1, 2));
            refused(sentence, "beside(" + to + ", 1, 1)", NONE, x -> x.beside(to, 1, 1));
        }
    }

    private static void asksOfNoGraph() {
        for (int g : NO_GRAPHS) {
            String none = "(" + g + ")";
            refused("7: NONE when there is none such", "edges" + none, NONE, x -> x.edges(g));
            refused("8: 0 when there is none such", "weight" + none, 0, x -> x.weight(g, 0));
            refused("9: NONE when there is no such graph", "rank" + none, NONE, x -> x.rank(g, 0));
            refused("10: NONE when there is no such graph", "best" + none, NONE, x -> x.best(g));
            refused("11: NONE when there are no such graphs", "common" + none, NONE, x -> x.common(g, 0));
            refused("11: NONE when there are no such graphs", "common" + none, NONE, x -> x.common(0, g));
            refused("12: NONE likewise", "cover" + none, NONE, x -> x.cover(g, 0));
            refused("12: NONE likewise", "cover" + none, NONE, x -> x.cover(0, g));
        }
    }

    private static void asksOfWrongSets() {
        refused("8: 0 when there is none such", "weight(0, 3)", 0, x -> x.weight(0, 3));
        refused("8: 0 when there is none such", "weight(1, 12)", 0, x -> x.weight(1, 12));
        refused("8: 0 when there is none such", "weight(1, -1)", 0, x -> x.weight(1, -1));
        refused("9: or it has other edges", "rank(0, 8)", NONE, x -> x.rank(0, 8));
        refused("9: or it has other edges", "rank(1, 4096)", NONE, x -> x.rank(1, 4096));
        refused("9: or is below 0", "rank(1, -1)", NONE, x -> x.rank(1, -1));
        refused("11: or they have not as many edges", "common(0, 1)", NONE, x -> x.common(0, 1));
        refused("11: or they have not as many edges", "common(1, 4)", NONE, x -> x.common(1, 4));
        refused("12: NONE likewise", "cover(0, 1)", NONE, x -> x.cover(0, 1));
        refused("12: NONE likewise", "cover(1, 4)", NONE, x -> x.cover(1, 4));
    }

    private static void asksThatAreAnswered() {
        Subject asked = subject();
        for (int i = 0; i < 8; i++) {
            int g = i;
            asked.ask(x -> x.edges(g));
            asked.ask(x -> x.weight(g, 0));
            asked.ask(x -> x.rank(g, 0));
            asked.ask(x -> x.best(g));
            asked.ask(x -> x.common(g, g));
            asked.ask(x -> x.cover(g, g));
        }
        unchanged("7 to 12: asking", asked);
    }
}
