/**
 * Each sentence of the document that names a boundary case, by its own words, in a test of its own;
 * what stands in brackets tells the case. That refused calls change nothing is held in RefusedTest.
 */
public final class BoundaryTest {
    private static final Check CHECK = new Check();
    private static final int NONE = CommonForests.NONE;
    private static final int MOST = Integer.MAX_VALUE;
    private static final int LEAST = Integer.MIN_VALUE;
    private static final int ALL = 4095;
    /** Just outside 0 .. 7, and what a shift or a mask would take for one of them. */
    private static final int[] NO_GRAPHS = {-1, 8, -8, 16, 32, 256, 65536, MOST, LEAST};

    public static void main(String[] args) {
        terms();
        promise1();
        promise2();
        promise3();
        promise4();
        promise5();
        promise6();
        promise7And8();
        promise9();
        promise10();
        promise11();
        promise12();
        CHECK.end();
    }

    private static Asked says(String sentence) {
        return new Asked(CHECK, sentence);
    }

    private static void terms() {
        the512thCallIsStillPromised();
        thereAreEightGraphs();
        edgesAreTwelveAtMost();
        anEdgeMayEndWhereItBegins();
        atFirstTheyHaveOneVertex();
        setsAreSumsOfPowers();
        aForestHasNoWayBack();
        theRankIsThatOfTheLargestForests();
        orderLooksAtTheLeastEdge();
    }

    private static void the512thCallIsStillPromised() {
        for (int kind = 0; kind < 11; kind++) {
            Asked x = says("An object is used for at most 512 calls").path(0).ring(1);
            while (x.calls() < 511) {
                x.due(ALL).cover(1, 0);
            }
            callOfKind(x, kind);
        }
    }

    private static void callOfKind(Asked x, int kind) {
        switch (kind) {
            case 0 -> x.due(true).begin(7, 13);
            case 1 -> x.due(0).add(7, 0, 0);
            case 2 -> x.due(true).weigh(0, 11, 999);
            case 3 -> x.due(1).leave(7, 0, ALL - 1, true);
            case 4 -> x.due(12).beside(7, 0, 6);
            case 5 -> x.due(12).edges(0);
            case 6 -> x.due(0).weight(0, 11);
            case 7 -> x.due(11).rank(1, ALL);
            case 8 -> x.due(2047).best(1);
            case 9 -> x.due(2047).common(0, 1);
            default -> x.due(0).cover(0, 1);
        }
    }

    private static void thereAreEightGraphs() {
        Asked x = says("There are eight GRAPHS, 0 .. 7");
        for (int g = 0; g < 8; g++) {
            x.due(true).begin(g, g + 1);
            x.due(0).add(g, g, 0);
            x.due(true).weigh(g, 0, g + 1);
        }
        for (int g = 0; g < 8; g++) {
            x.due(1).edges(g);
            x.due(g + 1).weight(g, 0);
            x.due(g == 0 ? 0 : 1).rank(g, 1);
            x.due(NONE).add(g, g + 1, 0);
        }
        for (int g : NO_GRAPHS) {
            x.due(NONE).edges(g);
        }
    }

    private static void edgesAreTwelveAtMost() {
        Asked x = says("EDGES, which are numbered from 0 on, 12 at most");
        x.due(true).begin(0, 2);
        for (int e = 0; e < 12; e++) {
            x.due(e).edges(0);
            x.due(e).add(0, 0, 1);
        }
        x.due(12).edges(0);
        x.due(NONE).add(0, 0, 1);
        x.due(12).edges(0);
    }

    private static void anEdgeMayEndWhereItBegins() {
        Asked x = says("each between two vertices (perhaps one and the same)").graph(0, 13);
        for (int e = 0; e < 12; e++) {
            x.due(e).add(0, e + 1, e + 1);
            x.due(0).rank(0, 1 << e);
        }
        x.due(0).rank(0, ALL);
    }

    private static void atFirstTheyHaveOneVertex() {
        Asked x = says("At first they have one vertex and no edges; all are OPEN.");
        for (int g = 0; g < 8; g++) {
            x.due(0).edges(g);
            x.due(NONE).add(g, 0, 1);
            x.due(NONE).add(g, 1, 0);
            x.due(NONE).add(g, 1, 1);
            x.due(0).add(g, 0, 0);
        }
    }

    private static void setsAreSumsOfPowers() {
        Asked x = says("SETS are sets of edges, told as sums of 2^e for their edges e.");
        x.loops(1, 12);
        x.path(0);
        x.due(0).rank(0, 0);
        for (int e = 0; e < 12; e++) {
            x.due(1).rank(0, 1 << e);
            x.due(11).leave(2, 0, 1 << e, false);
        }
        x.due(12).rank(0, ALL);
        x.due(ALL).best(0);
        x.due(ALL).common(0, 0);
        x.due(ALL).cover(1, 0);
    }

    private static void aForestHasNoWayBack() {
        Asked x = says("A set is a FOREST when none of its edges can be gone along on a way that ends"
                + " where it began and uses no edge twice.");
        x.due(0).best(7);
        x.graph(0, 2, 0, 0).due(0).best(0);
        x.graph(0, 2, 0, 1).due(1).best(0);
        x.graph(0, 2, 0, 1, 0, 1).due(1).best(0);
        x.graph(0, 2, 0, 1, 1, 0).due(1).best(0);
        x.graph(0, 3, 0, 1, 1, 2).due(3).best(0);
        x.graph(0, 3, 0, 1, 1, 2, 2, 0).due(3).best(0);
        x.graph(0, 4, 0, 1, 2, 3).due(3).best(0);
        x.graph(0, 4, 0, 1, 2, 3, 1, 2, 3, 0).due(7).best(0);
        x.ring(0).due(2047).best(0);
        x.path(0).due(ALL).best(0);
        // Two rings that meet in one vertex, and a way between them that is in neither.
        x.graph(0, 6, 0, 1, 1, 2, 2, 0, 0, 3, 3, 4, 4, 0, 4, 5).due(1 + 2 + 8 + 16 + 64).best(0);
    }

    private static void theRankIsThatOfTheLargestForests() {
        Asked x = says("Its RANK is how many edges the largest forests within it have.");
        x.graph(0, 4, 0, 1, 1, 2, 2, 0, 2, 3, 3, 3);
        // A forest that cannot be added to within the set is one of the largest.
        x.due(0).rank(0, 0);
        x.due(0).rank(0, 16);
        x.due(1).rank(0, 17);
        x.due(2).rank(0, 3);
        x.due(2).rank(0, 7);
        x.due(3).rank(0, 15);
        x.due(3).rank(0, 31);
        x.ring(1).due(11).rank(1, ALL);
        x.due(11).rank(1, 2047);
        x.due(10).rank(1, 2046);
    }

    private static void orderLooksAtTheLeastEdge() {
        Asked x = says("of two with as many the one that has the least edge that only one of them has");
        // The largest common sets are {0, 3} and {1, 2}, and the sum of the first is greater.
        x.graph(0, 4, 0, 1, 0, 1, 2, 3, 2, 3).graph(1, 4, 0, 1, 2, 3, 0, 1, 2, 3);
        x.due(9).common(0, 1);
        x.due(9).common(1, 0);
        // {0, 1, 4} and {0, 2, 3}: the least edge is in both, and does not settle it.
        x.graph(0, 6, 0, 1, 2, 3, 2, 3, 4, 5, 4, 5).graph(1, 6, 0, 1, 2, 3, 4, 5, 2, 3, 4, 5);
        x.due(19).common(0, 1);
        x.due(19).common(1, 0);
    }

    private static void promise1() {
        Asked x = says("1: Eight graphs with one vertex each.");
        for (int g = 0; g < 8; g++) {
            x.due(0).edges(g);
            x.due(0).rank(g, 0);
            x.due(NONE).rank(g, 1);
            x.due(0).best(g);
            x.due(0).common(g, 7 - g);
            x.due(0).cover(g, 7 - g);
            x.due(0).weight(g, 0);
            x.due(false).weigh(g, 0, 0);
        }
        for (int g = 0; g < 8; g++) {
            x.due(NONE).add(g, 0, 1);
            x.due(NONE).add(g, 1, 0);
            x.due(NONE).add(g, -1, 0);
            x.due(0).add(g, 0, 0);
        }
        x.due(NONE).add(-1, 0, 0);
        x.due(NONE).add(8, 0, 0);
    }

    private static void promise2() {
        aGraphBecomesOpen();
        withSoManyVertices();
        andNoEdges();
        falseWhenItIsNotSuch();
    }

    private static void aGraphBecomesOpen() {
        Asked x = says("2: A graph becomes open");
        x.due(0).leave(0, 0, 0, false);
        x.due(NONE).add(0, 0, 0);
        x.due(true).begin(0, 1);
        x.due(0).add(0, 0, 0);
        x.due(0).beside(1, 6, 7);
        x.due(NONE).add(1, 0, 0);
        x.due(true).begin(1, 13);
        x.due(0).add(1, 12, 0);
        // One that is open already stays so, and the others stay as they are.
        x.due(true).begin(1, 13);
        x.due(0).add(1, 12, 0);
        x.due(1).leave(2, 1, 0, true);
        x.due(true).begin(1, 13);
        x.due(NONE).add(2, 0, 0);
    }

    private static void withSoManyVertices() {
        Asked x = says("2: with so many vertices (1 .. 13)");
        for (int vertices = 1; vertices <= 13; vertices++) {
            x.due(true).begin(0, vertices);
            x.due(NONE).add(0, vertices, 0);
            x.due(0).add(0, vertices - 1, 0);
        }
        for (int vertices = 13; vertices >= 1; vertices--) {
            x.due(true).begin(0, vertices);
            x.due(NONE).add(0, 0, vertices);
            x.due(0).add(0, 0, vertices - 1);
        }
    }

    private static void andNoEdges() {
        Asked x = says("2: and no edges").path(0);
        x.due(true).weigh(0, 0, 7);
        x.due(true).weigh(0, 11, 7);
        x.due(true).begin(0, 13);
        x.due(0).edges(0);
        x.due(0).weight(0, 0);
        x.due(0).weight(0, 11);
        x.due(0).rank(0, 0);
        x.due(NONE).rank(0, 1);
        x.due(0).best(0);
        x.due(0).common(0, 1);
        x.due(0).cover(0, 1);
        x.due(0).beside(2, 0, 0);
        x.due(0).add(0, 0, 0);
        x.due(0).weight(0, 0);
    }

    private static void falseWhenItIsNotSuch() {
        Asked x = says("2: false when it is not such");
        int[] wrong = {0, 14, -1, -13, 15, 16, 33, 256 + 1, 65536 + 1, MOST, LEAST, LEAST + 1};
        for (int vertices : wrong) {
            x.due(false).begin(0, vertices);
        }
        for (int g : NO_GRAPHS) {
            x.due(false).begin(g, 1);
            x.due(false).begin(g, 13);
            x.due(false).begin(g, 14);
        }
        x.due(true).begin(0, 1);
        x.due(true).begin(7, 13);
    }

    private static void promise3() {
        betweenTwoOfItsVertices();
        ofWeightNought();
        answersItsNumber();
        noneWhenThereAreTwelve();
        noSuchVertices();
        orTheGraphIsNotOpen();
        addToNoGraph();
    }

    private static void betweenTwoOfItsVertices() {
        Asked x = says("3: An open graph gets an edge between two of its vertices, 0 .. V - 1");
        x.graph(0, 13);
        x.due(0).add(0, 0, 12);
        x.due(1).add(0, 12, 0);
        x.due(2).add(0, 12, 12);
        x.due(3).add(0, 11, 12);
        x.due(1).rank(0, 3);
        x.due(0).rank(0, 4);
        x.due(2).rank(0, 15);
        x.graph(1, 1, 0, 0).graph(2, 2, 0, 0, 0, 1, 1, 0, 1, 1);
        x.due(1).rank(2, 15);
        x.due(1).rank(2, 6);
        x.due(0).rank(2, 9);
    }

    private static void ofWeightNought() {
        Asked x = says("3: of weight 0").path(0);
        for (int e = 0; e < 12; e++) {
            x.due(true).weigh(0, e, e - 999);
        }
        x.path(0);
        for (int e = 0; e < 12; e++) {
            x.due(0).weight(0, e);
        }
    }

    private static void answersItsNumber() {
        Asked x = says("3: Answers its number");
        for (int g = 0; g < 8; g++) {
            x.loops(g, 12);
        }
        x.due(true).begin(3, 2);
        x.due(0).add(3, 0, 1);
        x.due(1).add(3, 0, 1);
    }

    private static void noneWhenThereAreTwelve() {
        Asked x = says("3: NONE when there are 12").path(0).loops(1, 11);
        x.due(NONE).add(0, 0, 1);
        x.due(NONE).add(0, 0, 0);
        x.due(NONE).add(0, 0, 13);
        x.due(12).edges(0);
        x.due(11).add(1, 0, 0);
        x.due(NONE).add(1, 0, 0);
        x.due(12).edges(1);
        x.due(12).rank(0, ALL);
    }

    private static void noSuchVertices() {
        Asked x = says("3: NONE when there are .. no such vertices").graph(0, 4);
        int[] wrong = {-1, 4, -4, 5, 12, 13, 31, 32, 33, 256, 65536, MOST, LEAST, LEAST + 1};
        for (int v : wrong) {
            x.due(NONE).add(0, v, 0);
            x.due(NONE).add(0, 3, v);
            x.due(NONE).add(0, v, v);
        }
        x.due(0).edges(0);
        x.due(0).add(0, 3, 3);
        x.graph(1, 13);
        x.due(NONE).add(1, 13, 0);
        x.due(NONE).add(1, 0, 13);
        x.due(NONE).add(1, 13, 13);
        x.due(NONE).add(1, -1, 12);
    }

    private static void orTheGraphIsNotOpen() {
        Asked x = says("3: NONE when .. the graph is not open").graph(0, 3, 0, 1);
        x.due(1).leave(1, 0, 0, false);
        x.due(1).leave(2, 0, 0, true);
        x.due(0).leave(3, 0, 1, false);
        x.due(0).leave(4, 0, 1, true);
        x.due(2).beside(5, 0, 0);
        x.due(0).beside(6, 7, 7);
        for (int g = 1; g <= 6; g++) {
            x.due(NONE).add(g, 0, 0);
            x.due(NONE).add(g, 0, 1);
        }
        x.due(1).add(0, 0, 1);
        x.due(0).add(7, 0, 0);
        x.due(2).leave(0, 0, 0, false);
        x.due(NONE).add(0, 0, 0);
    }

    private static void addToNoGraph() {
        Asked x = says("3: An open graph gets an edge");
        for (int g : NO_GRAPHS) {
            x.due(NONE).add(g, 0, 0);
        }
    }

    private static void promise4() {
        anEdgeGetsAWeight();
        falseWhenThereIsNoneSuch();
    }

    private static void anEdgeGetsAWeight() {
        Asked x = says("4: An edge gets a weight, -999 .. 999.").path(0);
        for (int e = 0; e < 12; e++) {
            x.due(true).weigh(0, e, e % 2 == 0 ? 999 : -999);
        }
        for (int e = 0; e < 12; e++) {
            x.due(e % 2 == 0 ? 999 : -999).weight(0, e);
        }
        int[] right = {-999, -998, -1, 0, 1, 998, 999};
        for (int weight : right) {
            x.due(true).weigh(0, 11, weight);
            x.due(weight).weight(0, 11);
        }
        int[] wrong = {-1000, 1000, -1001, 1001, 65536, -65536, MOST, LEAST, LEAST + 1};
        for (int weight : wrong) {
            x.due(false).weigh(0, 11, weight);
            x.due(999).weight(0, 11);
        }
        x.due(12).leave(0, 0, 0, false);
        x.due(true).weigh(0, 11, -999);
        x.due(-999).weight(0, 11);
        x.due(0).weight(0, 10);
    }

    private static void falseWhenThereIsNoneSuch() {
        Asked x = says("4: false when there is none such").path(0).graph(1, 2, 0, 1, 0, 1);
        int[] noEdges = {-1, 12, 13, -12, 31, 32, 64, 256, MOST, LEAST, LEAST + 1};
        for (int e : noEdges) {
            x.due(false).weigh(0, e, 1);
            x.due(false).weigh(1, e, 1);
            x.due(false).weigh(2, e, 1);
        }
        x.due(true).weigh(0, 11, 1);
        x.due(true).weigh(1, 1, 1);
        x.due(false).weigh(1, 2, 1);
        x.due(false).weigh(1, 11, 1);
        x.due(false).weigh(2, 0, 1);
        for (int g : NO_GRAPHS) {
            x.due(false).weigh(g, 0, 1);
        }
        // What an edge had that is no more is not there for one to come.
        x.due(1).leave(1, 1, 1, false);
        x.due(false).weigh(1, 1, 5);
        x.graph(1, 2, 0, 1, 0, 1).due(0).weight(1, 1);
    }

    private static void promise5() {
        leaveMakesOneThatIsNotOpen();
        numberedAnewInTheirOrder();
        theEndsAreOneVertex();
        leaveMakesWeightsNought();
        leaveAnswersHowManyEdges();
        leaveOntoItself();
        leaveWithNoSuchGraphs();
        leaveWithOtherEdges();
        leaveWithASetBelowNought();
    }

    private static void leaveMakesOneThatIsNotOpen() {
        Asked x = says("5: Graph to becomes one that is not open").path(0);
        x.due(12).leave(1, 0, 0, false);
        x.due(NONE).add(1, 0, 0);
        x.due(1).leave(1, 0, ALL - 1, true);
        x.due(NONE).add(1, 0, 0);
        x.due(0).leave(1, 0, ALL, true);
        x.due(NONE).add(1, 0, 0);
        x.due(0).leave(2, 3, 0, false);
        x.due(NONE).add(2, 0, 0);
        // The one that it is made of stays open, and one that is not open can be left from, too.
        x.due(0).add(3, 0, 0);
        x.due(0).leave(4, 2, 0, true);
        x.due(NONE).add(4, 0, 0);
    }

    private static void numberedAnewInTheirOrder() {
        Asked x = says("5: of the edges of g that are not in a set, numbered anew in their order");
        // Edges 0, 3, 6 and 9 are loops.
        x.graph(0, 13, 0, 0, 0, 1, 1, 2, 2, 2, 2, 3, 3, 4, 4, 4, 4, 5, 5, 6, 6, 6, 6, 7, 7, 8);
        for (int set = 1; set < ALL; set = set * 2 + 1) {
            x.due(12 - Integer.bitCount(set)).leave(1, 0, set, false);
            leftAre(x, set);
        }
        int[] sets = {0, 1, 8, 2048, 2049, 4 + 8 + 16, 1365, 2730, ALL - 8, ALL - 16, ALL - 1};
        for (int set : sets) {
            x.due(12 - Integer.bitCount(set)).leave(1, 0, set, false);
            leftAre(x, set);
        }
    }

    private static void leftAre(Asked x, int set) {
        int now = 0;
        for (int e = 0; e < 12; e++) {
            if ((set >> e & 1) == 0) {
                x.due(e % 3 == 0 ? 0 : 1).rank(1, 1 << now);
                now++;
            }
        }
        x.due(now).edges(1);
        x.due(NONE).rank(1, 1 << now);
    }

    private static void theEndsAreOneVertex() {
        Asked x = says("5: if joined, the ends of each edge in the set are one vertex then").ring(0);
        x.due(12).leave(1, 0, 0, true);
        x.due(11).rank(1, ALL);
        x.due(11).leave(1, 0, 2048, true);
        x.due(10).rank(1, 2047);
        x.due(11).leave(1, 0, 2048, false);
        x.due(11).rank(1, 2047);
        x.due(2).leave(1, 0, ALL - 1 - 64, true);
        x.due(1).rank(1, 3);
        x.due(1).rank(1, 1);
        x.due(1).leave(1, 0, ALL - 64, true);
        x.due(0).rank(1, 1);
        x.due(1).leave(1, 0, ALL - 64, false);
        x.due(1).rank(1, 1);
        // A loop in the set joins nothing, and an edge beside one in the set becomes a loop.
        x.graph(2, 3, 0, 0, 0, 1, 1, 0, 1, 2, 0, 2);
        x.due(4).leave(3, 2, 1, true);
        x.due(1).rank(3, 3);
        x.due(2).rank(3, 15);
        x.due(4).leave(3, 2, 2, true);
        x.due(0).rank(3, 1);
        x.due(0).rank(3, 2);
        x.due(1).rank(3, 12);
        x.due(2).leave(3, 2, 7, true);
        x.due(1).rank(3, 3);
        x.due(3).leave(3, 2, 8 + 16, true);
        x.due(0).rank(3, 7);
        // Two parts are joined each for itself.
        x.graph(4, 6, 0, 1, 2, 3, 0, 2, 1, 3, 0, 1, 4, 5);
        x.due(4).leave(5, 4, 3, true);
        x.due(1).rank(5, 3);
        x.due(0).rank(5, 4);
        x.due(1).rank(5, 8);
        x.due(2).rank(5, 15);
    }

    private static void leaveMakesWeightsNought() {
        Asked x = says("5: Weights are 0.").path(0).path(1);
        for (int e = 0; e < 12; e++) {
            x.due(true).weigh(0, e, 999 - e);
            x.due(true).weigh(1, e, -999 + e);
        }
        x.due(11).leave(1, 0, 1, false);
        for (int e = 0; e < 12; e++) {
            x.due(0).weight(1, e);
            x.due(999 - e).weight(0, e);
        }
        x.due(12).leave(0, 0, 0, true);
        for (int e = 0; e < 12; e++) {
            x.due(0).weight(0, e);
        }
        x.due(ALL).best(0);
    }

    private static void leaveAnswersHowManyEdges() {
        Asked x = says("5: Answers how many edges it has").path(0);
        for (int count = 12; count >= 0; count--) {
            x.due(count).leave(1, 0, ALL >> count, count % 2 == 0);
            x.due(count).edges(1);
        }
        x.due(0).leave(1, 2, 0, false);
        x.due(0).leave(1, 2, 0, true);
        x.due(0).edges(1);
        x.due(12).edges(0);
    }

    private static void leaveOntoItself() {
        Asked x = says("5: Graph to becomes one .. of the edges of g (which may be to itself)").ring(0);
        x.due(12).leave(0, 0, 0, false);
        x.due(NONE).add(0, 0, 0);
        for (int left = 11; left >= 1; left--) {
            x.due(left).leave(0, 0, 1, true);
            x.due(left - 1).rank(0, (1 << left) - 1);
        }
        x.due(0).leave(0, 0, 1, true);
        x.due(0).edges(0);
        x.due(0).leave(0, 0, 0, true);
        x.due(NONE).leave(0, 0, 1, true);
    }

    private static void leaveWithNoSuchGraphs() {
        Asked x = says("5: NONE when there are no such graphs").path(0).path(7);
        for (int g : NO_GRAPHS) {
            x.due(NONE).leave(g, 0, 0, false);
            x.due(NONE).leave(g, 0, ALL, true);
            x.due(NONE).leave(1, g, 0, false);
            x.due(NONE).leave(1, g, ALL, true);
            x.due(NONE).leave(g, g, 0, true);
        }
        x.due(0).edges(1);
        x.due(12).leave(0, 7, 0, false);
        x.due(11).leave(7, 0, 1, true);
    }

    private static void leaveWithOtherEdges() {
        Asked x = says("5: NONE when .. the set has other edges").path(0).graph(1, 2, 0, 1, 0, 1);
        int[] beyondTwelve = {4096, 4097, ALL + 4096, 8192, 65536, 1 << 30, MOST, MOST - ALL};
        for (int set : beyondTwelve) {
            x.due(NONE).leave(3, 0, set, false);
            x.due(NONE).leave(3, 0, set, true);
            x.due(NONE).leave(3, 1, set, false);
        }
        for (int set = 4; set <= 4096; set *= 2) {
            x.due(NONE).leave(3, 1, set, true);
            x.due(NONE).leave(3, 1, set + 3, false);
            x.due(NONE).leave(3, 2, set, true);
        }
        x.due(NONE).leave(3, 2, 1, false);
        x.due(NONE).leave(3, 2, 1, true);
        x.due(0).leave(3, 1, 3, true);
        x.due(0).leave(3, 0, ALL, true);
    }

    private static void leaveWithASetBelowNought() {
        Asked x = says("5: NONE when .. the set .. is below 0").path(0);
        int[] below = {-1, -2, -ALL, -ALL - 1, -65536, LEAST, LEAST + 1, LEAST + ALL};
        for (int set : below) {
            x.due(NONE).leave(1, 0, set, false);
            x.due(NONE).leave(1, 0, set, true);
            x.due(NONE).leave(1, 2, set, true);
        }
        x.due(0).add(1, 0, 0);
        x.due(12).leave(1, 0, 0, true);
    }

    private static void promise6() {
        besideMakesOneThatIsNotOpen();
        theEdgesOfGThenThoseOfH();
        withNoVertexInCommon();
        noTwoEdgesHaveAVertexInCommon();
        moreVerticesThanAnOpenGraphHas();
        besideMakesWeightsNought();
        besideAnswersHowManyEdges();
        besideWithNoSuchGraphs();
        noneWhenTheseWouldBeMoreThanTwelve();
    }

    private static void besideMakesOneThatIsNotOpen() {
        Asked x = says("6: Graph to becomes one that is not open").path(0);
        x.due(12).beside(1, 0, 7);
        x.due(NONE).add(1, 0, 0);
        x.due(0).beside(2, 6, 7);
        x.due(NONE).add(2, 0, 0);
        x.due(0).beside(3, 3, 3);
        x.due(NONE).add(3, 0, 0);
        x.due(0).add(6, 0, 0);
        x.due(0).add(7, 0, 0);
    }

    private static void theEdgesOfGThenThoseOfH() {
        Asked x = says("6: of the edges of g and then those of h");
        // Loops at 0 and 2 of the first, and at 1 of the second.
        x.graph(0, 3, 0, 0, 0, 1, 2, 2).graph(1, 3, 2, 1, 1, 1);
        x.due(5).beside(2, 0, 1);
        ranksOfEach(x, 2, 0, 1, 0, 1, 0);
        x.due(5).beside(3, 1, 0);
        ranksOfEach(x, 3, 1, 0, 0, 1, 0);
        x.due(5).beside(0, 0, 1);
        ranksOfEach(x, 0, 0, 1, 0, 1, 0);
        x.due(7).beside(1, 0, 1);
        ranksOfEach(x, 1, 0, 1, 0, 1, 0, 1, 0);
        x.due(3).leave(4, 3, 3, false);
        x.due(6).beside(4, 4, 4);
        ranksOfEach(x, 4, 0, 1, 0, 0, 1, 0);
        x.due(12).beside(4, 4, 4);
        ranksOfEach(x, 4, 0, 1, 0, 0, 1, 0, 0, 1, 0, 0, 1, 0);
    }

    private static void ranksOfEach(Asked x, int g, int... ranks) {
        for (int e = 0; e < ranks.length; e++) {
            x.due(ranks[e]).rank(g, 1 << e);
        }
        x.due(NONE).rank(g, 1 << ranks.length);
    }

    private static void withNoVertexInCommon() {
        Asked x = says("6: with no vertex in common");
        x.graph(0, 2, 0, 1).graph(1, 13, 0, 12, 12, 0).graph(2, 3, 0, 1, 1, 2, 2, 0);
        x.due(2).beside(3, 0, 0);
        x.due(2).rank(3, 3);
        x.due(3).beside(3, 0, 1);
        x.due(2).rank(3, 7);
        x.due(1).rank(3, 6);
        x.due(3).beside(3, 1, 0);
        x.due(1).rank(3, 3);
        x.due(2).rank(3, 6);
        x.due(6).beside(3, 2, 2);
        x.due(2).rank(3, 7);
        x.due(2).rank(3, 56);
        x.due(4).rank(3, 63);
        x.due(4).rank(3, 1 + 2 + 8 + 32);
        x.due(12).beside(3, 3, 3);
        x.due(8).rank(3, ALL);
        for (int ring = 0; ring < 4; ring++) {
            x.due(2).rank(3, 7 << 3 * ring);
        }
        // Joining in one part leaves the others as they are.
        x.due(11).leave(4, 3, 1, true);
        x.due(7).rank(4, 2047);
        x.due(1).rank(4, 3);
        x.due(2).rank(4, 7 << 2);
        x.due(2).rank(4, 7 << 8);
    }

    /** Whichever two of the thirteen vertices each of them had before. */
    private static void noTwoEdgesHaveAVertexInCommon() {
        for (int a = 0; a < 13; a++) {
            for (int b = 0; b < 13; b += 3) {
                Asked x = says("6: with no vertex in common (of edges anywhere)").graph(0, 13, a, b);
                for (int ends = 0; ends < 13 * 13; ends += 2) {
                    int c = ends / 13;
                    int d = ends % 13;
                    x.graph(1, 13, c, d).due(2).beside(2, 0, 1);
                    x.due((a == b ? 0 : 1) + (c == d ? 0 : 1)).rank(2, 3);
                }
            }
        }
    }

    private static void moreVerticesThanAnOpenGraphHas() {
        Asked x = says("6: with no vertex in common (however many there are then)").graph(0, 13, 11, 12);
        x.due(1).leave(1, 0, 0, false);
        for (int count = 2; count <= 12; count++) {
            x.due(count).beside(1, 0, 1);
            x.due(count).rank(1, (1 << count) - 1);
        }
        x.due(ALL).best(1);
        x.due(NONE).beside(1, 0, 1);
        // Vertices that no edge meets heap up as well.
        x.graph(2, 13);
        for (int turn = 0; turn < 60; turn++) {
            x.due(0).beside(2, 2, 2);
            x.due(12).beside(1, 2, 1);
            x.due(12).beside(1, 1, 2);
            x.due(12).rank(1, ALL);
        }
    }

    private static void besideMakesWeightsNought() {
        Asked x = says("6: Weights are 0.").path(2).loops(0, 6).loops(1, 6);
        for (int e = 0; e < 6; e++) {
            x.due(true).weigh(0, e, 999);
            x.due(true).weigh(1, e, -999);
            x.due(true).weigh(2, 2 * e, 5);
            x.due(true).weigh(2, 2 * e + 1, 6);
        }
        x.due(12).beside(2, 0, 1);
        for (int e = 0; e < 12; e++) {
            x.due(0).weight(2, e);
        }
        x.due(999).weight(0, 5);
        x.due(-999).weight(1, 5);
        x.due(12).beside(0, 0, 1);
        for (int e = 0; e < 12; e++) {
            x.due(0).weight(0, e);
        }
        x.due(0).beside(2, 6, 7);
        x.due(0).weight(2, 0);
    }

    private static void besideAnswersHowManyEdges() {
        Asked x = says("6: Answers how many edges it has");
        for (int count = 0; count <= 12; count++) {
            x.loops(0, count).loops(1, 12 - count);
            x.due(12).beside(2, 0, 1);
            x.due(12).edges(2);
            x.due(count).beside(2, 0, 7);
            x.due(count).edges(2);
        }
        x.due(0).beside(2, 7, 7);
        x.due(0).edges(2);
    }

    private static void besideWithNoSuchGraphs() {
        Asked x = says("6: NONE when there are no such graphs");
        for (int g : NO_GRAPHS) {
            x.due(NONE).beside(g, 0, 7);
            x.due(NONE).beside(0, g, 7);
            x.due(NONE).beside(0, 7, g);
            x.due(NONE).beside(0, g, g);
            x.due(NONE).beside(g, g, g);
        }
        x.due(0).beside(0, 7, 7);
        x.due(0).beside(7, 0, 0);
    }

    private static void noneWhenTheseWouldBeMoreThanTwelve() {
        Asked x = says("6: NONE when .. these would be more than 12");
        x.path(0).loops(1, 1).loops(2, 6).loops(3, 7);
        x.due(NONE).beside(7, 0, 1);
        x.due(NONE).beside(7, 1, 0);
        x.due(NONE).beside(7, 2, 3);
        x.due(NONE).beside(7, 3, 2);
        x.due(NONE).beside(7, 3, 3);
        x.due(NONE).beside(7, 0, 0);
        x.due(NONE).beside(0, 0, 0);
        x.due(NONE).beside(0, 0, 1);
        x.due(NONE).beside(1, 0, 1);
        x.due(0).edges(7);
        x.due(12).edges(0);
        x.due(1).edges(1);
        x.due(12).beside(7, 2, 2);
        x.due(12).beside(7, 0, 6);
        x.due(12).beside(7, 6, 0);
        x.due(12).rank(7, ALL);
    }

    private static void promise7And8() {
        howManyEdges();
        noneWhenThereIsNoneSuch();
        theWeightOfAnEdge();
        noughtWhenThereIsNoneSuch();
    }

    private static void howManyEdges() {
        Asked x = says("7: How many edges a graph has");
        for (int g = 0; g < 8; g++) {
            x.due(0).edges(g);
        }
        x.path(7).due(12).edges(7);
        x.due(NONE).add(7, 0, 0);
        x.due(12).edges(7);
        x.due(11).leave(6, 7, 2048, true);
        x.due(11).edges(6);
        x.due(12).edges(7);
        x.due(0).leave(6, 7, ALL, false);
        x.due(0).edges(6);
        x.due(true).begin(7, 1);
        x.due(0).edges(7);
    }

    private static void noneWhenThereIsNoneSuch() {
        Asked x = says("7: NONE when there is none such");
        for (int g : NO_GRAPHS) {
            x.due(NONE).edges(g);
        }
    }

    private static void theWeightOfAnEdge() {
        Asked x = says("8: The weight of an edge").path(7);
        for (int e = 0; e < 12; e++) {
            x.due(0).weight(7, e);
            x.due(true).weigh(7, e, 100 * e - 500);
        }
        for (int e = 0; e < 12; e++) {
            x.due(100 * e - 500).weight(7, e);
        }
        x.due(true).weigh(7, 11, 999);
        x.due(true).weigh(7, 11, -999);
        x.due(-999).weight(7, 11);
        x.due(500).weight(7, 10);
        x.due(NONE).add(7, 0, 0);
        x.due(-999).weight(7, 11);
    }

    private static void noughtWhenThereIsNoneSuch() {
        Asked x = says("8: 0 when there is none such").path(0).path(1);
        for (int e = 0; e < 12; e++) {
            x.due(true).weigh(0, e, 7);
            x.due(true).weigh(1, e, 7);
        }
        int[] noEdges = {-1, 12, 13, -12, 24, 31, 32, 64, 256, MOST, LEAST, LEAST + 1};
        for (int e : noEdges) {
            x.due(0).weight(0, e);
        }
        for (int g : NO_GRAPHS) {
            x.due(0).weight(g, 0);
            x.due(0).weight(g, 11);
            x.due(0).weight(g, -1);
        }
        x.due(0).weight(2, 0);
        // Fewer edges than before: what the others weighed is not answered any more.
        x.due(0).leave(1, 0, ALL, false);
        x.due(true).begin(0, 13);
        x.due(0).add(0, 0, 1);
        for (int e = 0; e < 12; e++) {
            x.due(0).weight(0, e);
            x.due(0).weight(1, e);
        }
    }

    private static void promise9() {
        theRankOfASet();
        rankWithNoSuchGraph();
        rankOfOtherEdges();
        rankBelowNought();
    }

    private static void theRankOfASet() {
        Asked x = says("9: The rank of a set").path(0).ring(1).loops(2, 12).graph(3, 2);
        for (int e = 0; e < 12; e++) {
            x.due(e).add(3, e % 2, 1 - e % 2);
        }
        for (int g = 0; g < 8; g++) {
            x.due(0).rank(g, 0);
        }
        for (int count = 1; count <= 12; count++) {
            int set = (1 << count) - 1;
            x.due(count).rank(0, set);
            x.due(Math.min(count, 11)).rank(1, set);
            x.due(0).rank(2, set);
            x.due(1).rank(3, set);
        }
    }

    private static void rankWithNoSuchGraph() {
        Asked x = says("9: NONE when there is no such graph").path(0).path(7);
        for (int g : NO_GRAPHS) {
            x.due(NONE).rank(g, 0);
            x.due(NONE).rank(g, 1);
            x.due(NONE).rank(g, ALL);
            x.due(NONE).rank(g, -1);
        }
        x.due(12).rank(7, ALL);
    }

    private static void rankOfOtherEdges() {
        Asked x = says("9: NONE when .. it has other edges").path(0).graph(1, 2, 0, 1, 0, 1);
        int[] beyondTwelve = {4096, 4097, ALL + 4096, 8192, 65536, 1 << 30, MOST, MOST - ALL};
        for (int set : beyondTwelve) {
            x.due(NONE).rank(0, set);
            x.due(NONE).rank(1, set);
            x.due(NONE).rank(2, set);
        }
        for (int set = 4; set <= 2048; set *= 2) {
            x.due(NONE).rank(1, set);
            x.due(NONE).rank(1, set + 1);
            x.due(NONE).rank(2, set);
        }
        x.due(NONE).rank(2, 1);
        x.due(12).rank(0, ALL);
        x.due(1).rank(1, 3);
        // An edge that was there before is another one now.
        x.due(true).begin(0, 13);
        x.due(NONE).rank(0, 1);
        x.due(1).leave(1, 1, 1, false);
        x.due(1).rank(1, 1);
        x.due(NONE).rank(1, 2);
    }

    private static void rankBelowNought() {
        Asked x = says("9: NONE when .. it .. is below 0").path(0);
        int[] below = {-1, -2, -ALL, -ALL - 1, -65536, LEAST, LEAST + 1, LEAST + ALL};
        for (int set : below) {
            x.due(NONE).rank(0, set);
            x.due(NONE).rank(1, set);
        }
    }

    private static void promise10() {
        theLargestBeforeTheHeaviest();
        theGreatestSumOfWeights();
        theFirstInOrderOfTheBest();
        bestOfNoEdges();
        bestWithNoSuchGraph();
    }

    private static void theLargestBeforeTheHeaviest() {
        Asked x = says("10: THE BEST forest of a graph: of the largest forests").path(0);
        for (int e = 0; e < 12; e++) {
            x.due(true).weigh(0, e, -999);
        }
        x.due(ALL).best(0);
        x.due(true).weigh(0, 0, 999);
        x.due(ALL).best(0);
        x.graph(1, 3, 0, 0, 0, 1, 1, 2, 2, 2);
        x.due(true).weigh(1, 0, 999);
        x.due(true).weigh(1, 3, 999);
        x.due(true).weigh(1, 1, -999);
        x.due(6).best(1);
    }

    private static void theGreatestSumOfWeights() {
        Asked x = says("10: those with the greatest sum of weights").ring(0).graph(1, 2, 0, 1, 1, 0);
        for (int e = 0; e < 12; e++) {
            x.due(true).weigh(0, e, 999);
        }
        for (int e = 0; e < 12; e++) {
            x.due(true).weigh(0, e, 998);
            x.due(ALL - (1 << e)).best(0);
            x.due(true).weigh(0, e, 999);
        }
        for (int e = 0; e < 12; e++) {
            x.due(true).weigh(0, e, -998);
        }
        for (int e = 0; e < 12; e++) {
            x.due(true).weigh(0, e, -999);
            x.due(ALL - (1 << e)).best(0);
            x.due(true).weigh(0, e, -998);
        }
        x.due(true).weigh(1, 0, -999);
        x.due(true).weigh(1, 1, -998);
        x.due(2).best(1);
        x.due(true).weigh(1, 0, 999);
        x.due(true).weigh(1, 1, -999);
        x.due(1).best(1);
        x.due(true).weigh(1, 1, 999);
        x.due(true).weigh(1, 0, 998);
        x.due(2).best(1);
    }

    private static void theFirstInOrderOfTheBest() {
        Asked x = says("10: of these the first in ORDER").ring(0).graph(1, 2);
        x.due(2047).best(0);
        for (int e = 0; e < 12; e++) {
            x.due(e).add(1, 0, 1);
        }
        x.due(1).best(1);
        x.due(true).weigh(1, 9, 1);
        x.due(true).weigh(1, 7, 1);
        x.due(128).best(1);
        for (int e = 0; e < 12; e++) {
            x.due(true).weigh(0, e, -999);
            x.due(true).weigh(1, e, -999);
        }
        x.due(2047).best(0);
        x.due(1).best(1);
        // Sums that are the same, made of weights that are not.
        x.graph(2, 4, 0, 1, 0, 1, 2, 3, 2, 3);
        x.due(true).weigh(2, 0, -5);
        x.due(true).weigh(2, 1, -5);
        x.due(true).weigh(2, 2, 8);
        x.due(true).weigh(2, 3, 8);
        x.due(5).best(2);
    }

    private static void bestOfNoEdges() {
        Asked x = says("10: The best forest (of no edges, and of loops alone)");
        for (int g = 0; g < 8; g++) {
            x.due(0).best(g);
        }
        x.loops(0, 12).due(0).best(0);
        x.due(true).weigh(0, 11, 999);
        x.due(0).best(0);
        x.due(0).leave(0, 0, ALL, true);
        x.due(0).best(0);
    }

    private static void bestWithNoSuchGraph() {
        Asked x = says("10: NONE when there is no such graph").path(0).path(7);
        for (int g : NO_GRAPHS) {
            x.due(NONE).best(g);
        }
        x.due(ALL).best(0);
        x.due(ALL).best(7);
    }

    private static void promise11() {
        commonOfFullAndOfEmptyGraphs();
        theLargestThatAreForestsInBoth();
        commonWithNoSuchGraphs();
        commonWhenTheyHaveNotAsManyEdges();
    }

    private static void commonOfFullAndOfEmptyGraphs() {
        Asked x = says("11: The common set (of graphs with no edge and with 12)");
        x.due(0).common(0, 7);
        x.due(0).common(7, 7);
        x.path(0).ring(1).loops(2, 12).graph(3, 2);
        for (int e = 0; e < 12; e++) {
            x.due(e).add(3, 0, 1);
        }
        commonBothWays(x, 0, 0, ALL);
        commonBothWays(x, 0, 1, 2047);
        commonBothWays(x, 1, 1, 2047);
        commonBothWays(x, 0, 2, 0);
        commonBothWays(x, 2, 2, 0);
        commonBothWays(x, 0, 3, 1);
        commonBothWays(x, 3, 3, 1);
        // Weights are nothing to it, and neither is which graph is open.
        x.due(true).weigh(0, 11, 999);
        x.due(true).weigh(1, 0, -999);
        x.due(12).leave(4, 1, 0, true);
        x.due(2047).common(0, 4);
        x.due(2047).common(0, 1);
        x.due(0).leave(4, 1, ALL, true);
        x.due(0).common(4, 7);
    }

    private static void commonBothWays(Asked x, int g, int h, int want) {
        x.due(want).common(g, h);
        x.due(want).common(h, g);
    }

    private static void theLargestThatAreForestsInBoth() {
        Asked x = says("11: THE COMMON set is the first in ORDER of the largest sets that are forests in both.");
        // {0} cannot be added to, but {1, 2} is larger.
        x.graph(0, 4, 0, 1, 0, 1, 2, 3).graph(1, 4, 0, 1, 2, 3, 0, 1);
        commonBothWays(x, 0, 1, 6);
        // Each has a forest of two edges, and there is none of two in both.
        x.graph(2, 3, 0, 1, 0, 1, 1, 2).graph(3, 3, 0, 1, 1, 2, 2, 2);
        commonBothWays(x, 2, 3, 1);
        // The last edge alone is a forest in both.
        x.graph(4, 2, 0, 0, 1, 1, 0, 1).graph(5, 2, 0, 1, 0, 1, 0, 1);
        commonBothWays(x, 4, 5, 4);
    }

    private static void commonWithNoSuchGraphs() {
        Asked x = says("11: NONE when there are no such graphs").path(0);
        for (int g : NO_GRAPHS) {
            x.due(NONE).common(g, 0);
            x.due(NONE).common(0, g);
            x.due(NONE).common(g, 1);
            x.due(NONE).common(1, g);
            x.due(NONE).common(g, g);
        }
        x.due(ALL).common(0, 0);
    }

    private static void commonWhenTheyHaveNotAsManyEdges() {
        Asked x = says("11: NONE when .. they have not as many edges").loops(0, 12).loops(1, 11).loops(2, 1);
        commonBothWays(x, 0, 1, NONE);
        commonBothWays(x, 0, 2, NONE);
        commonBothWays(x, 0, 3, NONE);
        commonBothWays(x, 2, 3, NONE);
        x.due(11).add(1, 0, 0);
        commonBothWays(x, 0, 1, 0);
        x.due(0).add(3, 0, 0);
        commonBothWays(x, 2, 3, 0);
        x.due(true).begin(2, 1);
        commonBothWays(x, 2, 3, NONE);
    }

    private static void promise12() {
        coverOfFullAndOfEmptyGraphs();
        theRankOfAInTheFirst();
        isWithinAllOthers();
        oneEdgeForcesTheNext();
        coverWithNoSuchGraphs();
        coverWhenTheyHaveNotAsManyEdges();
    }

    private static void coverOfFullAndOfEmptyGraphs() {
        Asked x = says("12: The cover (of graphs with no edge and with 12)");
        x.due(0).cover(0, 7);
        x.due(0).cover(7, 7);
        x.path(0).ring(1).loops(2, 12);
        x.due(0).cover(0, 0);
        x.due(0).cover(0, 1);
        x.due(ALL).cover(1, 0);
        x.due(0).cover(1, 1);
        x.due(0).cover(0, 2);
        x.due(ALL).cover(2, 0);
        x.due(0).cover(2, 2);
        x.due(ALL).cover(2, 1);
        x.due(0).leave(4, 1, ALL, true);
        x.due(0).cover(4, 7);
    }

    private static void theRankOfAInTheFirst() {
        Asked x = says("12: the rank of A in the first and the rank of the other edges in the second make"
                + " as much as the common set has");
        // Six edges beside one another in the first, and the other six in the second.
        x.graph(0, 9, 0, 1, 0, 1, 0, 1, 0, 1, 0, 1, 0, 1, 2, 3, 3, 4, 4, 5, 5, 6, 6, 7, 7, 8);
        x.graph(1, 9, 2, 3, 3, 4, 4, 5, 5, 6, 6, 7, 7, 8, 0, 1, 0, 1, 0, 1, 0, 1, 0, 1, 0, 1);
        x.due(65).common(0, 1);
        x.due(63).cover(0, 1);
        x.due(ALL - 63).cover(1, 0);
        x.due(1).rank(0, 63);
        x.due(1).rank(1, ALL - 63);
        // The first and the last edge alone.
        x.graph(2, 13, 0, 0, 0, 1, 1, 2, 2, 3, 3, 4, 4, 5, 5, 6, 6, 7, 7, 8, 8, 9, 9, 10, 0, 0);
        x.path(3);
        x.due(1 + 2048).cover(2, 3);
        x.due(0).cover(3, 2);
    }

    private static void isWithinAllOthers() {
        Asked x = says("12: THE COVER is the set A which .. is within all others (there is one).");
        // Every set A would do for the path with itself, and so the empty one is it.
        x.path(0).due(0).cover(0, 0);
        // Edge 2 may be in A or not, as it counts 1 in both; edges 0 and 1 must be.
        x.graph(1, 5, 0, 1, 0, 1, 2, 3).graph(2, 5, 0, 1, 1, 2, 3, 4);
        x.due(3).cover(1, 2);
        x.due(0).cover(2, 1);
        // A loop in both may be in A or not.
        x.graph(3, 3, 0, 0, 1, 1, 0, 1).graph(4, 3, 0, 1, 1, 1, 1, 2);
        x.due(1).cover(3, 4);
        x.due(0).cover(4, 3);
    }

    private static void oneEdgeForcesTheNext() {
        Asked x = says("12: THE COVER (when one edge after the other is forced into it)");
        // Edges beside one another: 1 and 2, 3 and 4, .. in graph 0, but 0 and 1, 2 and 3, .. in 1.
        x.graph(0, 13).graph(1, 13).graph(2, 13).graph(3, 13);
        for (int e = 0; e < 12; e++) {
            x.due(e).add(0, 0, (e + 1) / 2 + 1);
            x.due(e).add(1, 0, e / 2 + 1);
            x.due(e).add(2, 12, (12 - e) / 2);
            x.due(e).add(3, 12, (11 - e) / 2);
        }
        commonBothWays(x, 0, 1, 1365);
        x.due(0).cover(0, 1);
        x.due(ALL).cover(1, 0);
        commonBothWays(x, 2, 3, 1365);
        x.due(0).cover(2, 3);
        x.due(ALL).cover(3, 2);
    }

    private static void coverWithNoSuchGraphs() {
        Asked x = says("12: NONE likewise (when there are no such graphs)").path(0);
        for (int g : NO_GRAPHS) {
            x.due(NONE).cover(g, 0);
            x.due(NONE).cover(0, g);
            x.due(NONE).cover(g, 1);
            x.due(NONE).cover(1, g);
            x.due(NONE).cover(g, g);
        }
        x.due(0).cover(0, 0);
    }

    private static void coverWhenTheyHaveNotAsManyEdges() {
        Asked x = says("12: NONE likewise (when they have not as many edges)");
        x.loops(0, 12).loops(1, 11).loops(2, 1);
        int[][] pairs = {{0, 1}, {0, 2}, {0, 3}, {2, 3}, {1, 2}};
        for (int[] pair : pairs) {
            x.due(NONE).cover(pair[0], pair[1]);
            x.due(NONE).cover(pair[1], pair[0]);
        }
        x.due(11).add(1, 0, 0);
        x.due(0).cover(0, 1);
        x.due(0).add(3, 0, 0);
        x.due(0).cover(3, 2);
        x.due(true).begin(2, 1);
        x.due(NONE).cover(3, 2);
    }
}
