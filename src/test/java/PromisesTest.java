/** Each promise of the document by its number: ordinary inputs, the edges it names, wrong inputs. */
public final class PromisesTest {
    private static final Check CHECK = new Check();
    private static final int NONE = CommonForests.NONE;
    private static final int[] NO_GRAPHS = {-1, 8, 9, 31, 32, Integer.MAX_VALUE, Integer.MIN_VALUE};

    public static void main(String[] args) {
        promise1();
        promise2();
        promise3();
        promise4();
        promise5();
        promise5OnItself();
        promise6();
        promise6WithManyVertices();
        promise7();
        promise8();
        promise9();
        promise10();
        promise11();
        promise12();
        refusedCallsChangeNothing();
        objectsShareNothing();
        CHECK.end();
    }

    private static void due(String what, long got, long want) {
        CHECK.due(what, got, want);
    }

    private static void due(String what, boolean got, boolean want) {
        CHECK.due(what, got, want);
    }

    /** Begins graph g and adds an edge for each two numbers. */
    private static void make(CommonForests x, int g, int vertices, int... ends) {
        due("make: begin", x.begin(g, vertices), true);
        for (int i = 0; i + 1 < ends.length; i += 2) {
            due("make: add", x.add(g, ends[i], ends[i + 1]), i / 2);
        }
    }

    private static CommonForests triangle() {
        CommonForests x = new CommonForests();
        make(x, 0, 3, 0, 1, 1, 2, 2, 0);
        return x;
    }

    private static void promise1() {
        CommonForests x = new CommonForests();
        due("1: NONE", NONE, -1);
        for (int g = 0; g < 8; g++) {
            due("1: no edges", x.edges(g), 0);
            due("1: best of none", x.best(g), 0);
            due("1: rank of none", x.rank(g, 0), 0);
            due("1: there is no vertex 1", x.add(g, 0, 1), NONE);
            due("1: there is a vertex 0, and it is open", x.add(g, 0, 0), 0);
            due("1: a loop is no forest", x.rank(g, 1), 0);
        }
    }

    private static void promise2() {
        CommonForests x = triangle();
        due("2: begin(0, 2)", x.begin(0, 2), true);
        due("2: no edges any more", x.edges(0), 0);
        due("2: two vertices", x.add(0, 0, 2), NONE);
        due("2: two vertices", x.add(0, 0, 1), 0);
        x.weigh(0, 0, 5);
        x.begin(0, 13);
        due("2: thirteen vertices", x.add(0, 12, 11), 0);
        due("2: an old weight is gone", x.weight(0, 0), 0);
        due("2: not fourteen", x.add(0, 13, 0), NONE);
        x.leave(0, 0, 0, false);
        due("2: not open", x.add(0, 0, 0), NONE);
        due("2: open again", x.begin(0, 1), true);
        due("2: open again", x.add(0, 0, 0), 0);
        int[] wrong = {0, -1, 14, 15, 33, Integer.MAX_VALUE, Integer.MIN_VALUE};
        for (int vertices : wrong) {
            due("2: begin(0, " + vertices + ")", x.begin(0, vertices), false);
        }
        for (int g : NO_GRAPHS) {
            due("2: begin(" + g + ", 1)", x.begin(g, 1), false);
        }
        due("2: refused, so not begun", x.edges(0), 1);
        due("2: the last graph", x.begin(7, 1), true);
    }

    private static void promise3() {
        CommonForests x = new CommonForests();
        x.begin(7, 4);
        for (int e = 0; e < 12; e++) {
            due("3: numbered from 0 on", x.add(7, e % 4, 3), e);
            due("3: of weight 0", x.weight(7, e), 0);
        }
        due("3: 12 at most", x.add(7, 0, 1), NONE);
        due("3: 12 at most", x.edges(7), 12);
        x.begin(7, 4);
        int[] wrong = {-1, 4, 5, 13, 32, Integer.MAX_VALUE, Integer.MIN_VALUE};
        for (int v : wrong) {
            due("3: no vertex " + v, x.add(7, v, 0), NONE);
            due("3: no vertex " + v, x.add(7, 0, v), NONE);
            due("3: no vertex " + v, x.add(7, v, v), NONE);
        }
        for (int g : NO_GRAPHS) {
            due("3: no graph " + g, x.add(g, 0, 0), NONE);
        }
        due("3: nothing was added", x.edges(7), 0);
        due("3: two of the vertices", x.add(7, 3, 0), 0);
        x.beside(6, 7, 7);
        due("3: not open after beside", x.add(6, 0, 0), NONE);
        x.leave(5, 7, 0, true);
        due("3: not open after leave", x.add(5, 0, 0), NONE);
        due("3: the other stays open", x.add(7, 1, 2), 1);
    }

    private static void promise4() {
        CommonForests x = triangle();
        due("4: the greatest", x.weigh(0, 0, 999), true);
        due("4: the least", x.weigh(0, 2, -999), true);
        due("4: too great", x.weigh(0, 0, 1000), false);
        due("4: too little", x.weigh(0, 0, -1000), false);
        due("4: too great", x.weigh(0, 0, Integer.MAX_VALUE), false);
        due("4: too little", x.weigh(0, 0, Integer.MIN_VALUE), false);
        due("4: no edge 3", x.weigh(0, 3, 1), false);
        due("4: no edge -1", x.weigh(0, -1, 1), false);
        due("4: no edge 12", x.weigh(0, 12, 1), false);
        due("4: no edge", x.weigh(0, Integer.MAX_VALUE, 1), false);
        due("4: no edge", x.weigh(0, Integer.MIN_VALUE, 1), false);
        for (int g : NO_GRAPHS) {
            due("4: no graph " + g, x.weigh(g, 0, 1), false);
        }
        due("4: edge 0", x.weight(0, 0), 999);
        due("4: edge 1", x.weight(0, 1), 0);
        due("4: edge 2", x.weight(0, 2), -999);
        x.leave(1, 0, 0, false);
        due("4: one that is not open, too", x.weigh(1, 2, 8), true);
        due("4: one that is not open, too", x.weight(1, 2), 8);
        due("4: and only that", x.weight(0, 2), -999);
    }

    private static void promise5() {
        CommonForests x = new CommonForests();
        make(x, 0, 4, 0, 1, 1, 2, 2, 0, 2, 3);
        x.weigh(0, 3, 7);
        due("5: without edge 0", x.leave(1, 0, 1, false), 3);
        due("5: three edges", x.edges(1), 3);
        due("5: a path", x.rank(1, 7), 3);
        due("5: weights are 0", x.weight(1, 2), 0);
        due("5: not open", x.add(1, 0, 0), NONE);
        due("5: edge 0 drawn together", x.leave(2, 0, 1, true), 3);
        due("5: now beside one another", x.rank(2, 3), 1);
        due("5: the old edge 3", x.rank(2, 5), 2);
        due("5: edges 0 and 1 drawn together", x.leave(2, 0, 3, true), 2);
        due("5: the old edge 2 is a loop", x.rank(2, 1), 0);
        due("5: the old edge 3 is none", x.rank(2, 2), 1);
        due("5: a ring drawn together", x.leave(2, 0, 7, true), 1);
        due("5: the old edge 3", x.rank(2, 1), 1);
        due("5: all", x.leave(2, 0, 15, true), 0);
        due("5: none left", x.edges(2), 0);
        due("5: not all", x.leave(3, 0, 0, true), 4);
        due("5: the same", x.rank(3, 7), 2);
        due("5: g has its weight", x.weight(0, 3), 7);
        due("5: g stays open", x.add(0, 0, 0), 4);
        int[] wrong = {32, 33, 64, 4096, 1 << 30, Integer.MAX_VALUE, -1, -32, Integer.MIN_VALUE};
        for (int set : wrong) {
            due("5: set " + set, x.leave(3, 0, set, true), NONE);
            due("5: set " + set, x.leave(3, 0, set, false), NONE);
        }
        for (int g : NO_GRAPHS) {
            due("5: no graph " + g, x.leave(g, 0, 0, true), NONE);
            due("5: no graph " + g, x.leave(3, g, 0, true), NONE);
        }
        due("5: refused", x.edges(3), 4);
    }

    private static void promise5OnItself() {
        CommonForests x = new CommonForests();
        make(x, 0, 4, 0, 1, 1, 2, 2, 0, 2, 3);
        x.weigh(0, 2, 3);
        due("5: itself", x.leave(0, 0, 2, true), 3);
        due("5: itself, weights", x.weight(0, 2), 0);
        due("5: itself, ranks", x.rank(0, 3), 1);
        due("5: itself, ranks", x.rank(0, 6), 2);
        due("5: itself, not open", x.add(0, 0, 0), NONE);
        due("5: itself again", x.leave(0, 0, 1, true), 2);
        due("5: itself again, a loop", x.rank(0, 1), 0);
        due("5: itself again, none", x.rank(0, 2), 1);
    }

    private static void promise6() {
        CommonForests x = triangle();
        make(x, 1, 2, 0, 1, 0, 0);
        x.weigh(0, 0, 4);
        x.weigh(1, 0, 5);
        due("6: five edges", x.beside(2, 0, 1), 5);
        due("6: five edges", x.edges(2), 5);
        due("6: first those of g", x.rank(2, 7), 2);
        due("6: then those of h", x.rank(2, 8), 1);
        due("6: then those of h", x.rank(2, 16), 0);
        due("6: no vertex in common", x.rank(2, 9), 2);
        due("6: no vertex in common", x.rank(2, 31), 3);
        due("6: weights are 0", x.weight(2, 0), 0);
        due("6: weights are 0", x.weight(2, 3), 0);
        due("6: not open", x.add(2, 0, 0), NONE);
        due("6: g and h stay open", x.add(1, 1, 0), 2);
        due("6: with itself", x.beside(0, 0, 0), 6);
        due("6: with itself", x.rank(0, 63), 4);
        due("6: onto the second", x.beside(1, 0, 1), 9);
        due("6: onto the second", x.rank(1, 511), 5);
        due("6: the loop", x.rank(1, 128), 0);
        due("6: 12 edges", x.beside(3, 0, 0), 12);
        due("6: 12 edges", x.rank(3, 4095), 8);
        due("6: 13 edges", x.leave(4, 0, 31, false), 1);
        due("6: 13 edges", x.beside(4, 3, 4), NONE);
        due("6: 13 edges", x.beside(4, 4, 3), NONE);
        due("6: refused", x.edges(4), 1);
        due("6: 12 and none", x.beside(4, 3, 7), 12);
        for (int g : NO_GRAPHS) {
            due("6: no graph " + g, x.beside(g, 7, 7), NONE);
            due("6: no graph " + g, x.beside(7, g, 7), NONE);
            due("6: no graph " + g, x.beside(7, 7, g), NONE);
        }
        due("6: refused, so still open", x.add(7, 0, 0), 0);
    }

    private static void promise6WithManyVertices() {
        CommonForests x = new CommonForests();
        make(x, 0, 13, 12, 11);
        x.begin(1, 13);
        for (int turn = 0; turn < 40; turn++) {
            due("6: none more", x.beside(2, 1, 1), 0);
            due("6: none more", x.beside(1, 2, 2), 0);
            due("6: none more", x.beside(0, 1, 0), 1);
        }
        due("6: one edge still", x.rank(0, 1), 1);
        make(x, 3, 13, 12, 0);
        for (int e = 1; e < 12; e++) {
            due("6: one more", x.beside(0, 0, 3), e + 1);
        }
        due("6: twelve edges apart", x.rank(0, 4095), 12);
        due("6: one drawn together", x.leave(0, 0, 1, true), 11);
        due("6: eleven edges apart", x.rank(0, 2047), 11);
        due("6: and one more", x.beside(0, 3, 0), 12);
        due("6: twelve edges apart", x.rank(0, 4095), 12);
    }

    private static void promise7() {
        CommonForests x = triangle();
        due("7: three", x.edges(0), 3);
        due("7: none", x.edges(7), 0);
        for (int g : NO_GRAPHS) {
            due("7: no graph " + g, x.edges(g), NONE);
        }
    }

    private static void promise8() {
        CommonForests x = triangle();
        x.weigh(0, 1, 3);
        x.weigh(0, 1, -4);
        x.weigh(0, 2, 5);
        due("8: the last one", x.weight(0, 1), -4);
        due("8: edge 2", x.weight(0, 2), 5);
        x.begin(0, 3);
        due("8: no edge 1", x.weight(0, 1), 0);
        x.add(0, 0, 1);
        int[] wrong = {-1, 1, 2, 3, 12, 13, Integer.MAX_VALUE, Integer.MIN_VALUE};
        for (int e : wrong) {
            due("8: no edge " + e, x.weight(0, e), 0);
        }
        for (int g : NO_GRAPHS) {
            due("8: no graph " + g, x.weight(g, 0), 0);
        }
    }

    private static void promise9() {
        CommonForests x = new CommonForests();
        make(x, 0, 5, 0, 1, 0, 1, 2, 2, 1, 2, 2, 0, 3, 4);
        due("9: the empty set", x.rank(0, 0), 0);
        due("9: an edge", x.rank(0, 1), 1);
        due("9: two between the same vertices", x.rank(0, 3), 1);
        due("9: a loop", x.rank(0, 4), 0);
        due("9: a ring", x.rank(0, 25), 2);
        due("9: two that do not meet", x.rank(0, 33), 2);
        due("9: all", x.rank(0, 63), 3);
        int[] wrong = {64, 65, 128, 4096, 1 << 30, Integer.MAX_VALUE, -1, -64, Integer.MIN_VALUE};
        for (int set : wrong) {
            due("9: set " + set, x.rank(0, set), NONE);
        }
        for (int g : NO_GRAPHS) {
            due("9: no graph " + g, x.rank(g, 0), NONE);
        }
    }

    private static void promise10() {
        CommonForests x = triangle();
        due("10: first in ORDER", x.best(0), 3);
        x.weigh(0, 2, 1);
        due("10: the greatest sum", x.best(0), 5);
        x.weigh(0, 0, -1);
        due("10: the greatest sum", x.best(0), 6);
        x.weigh(0, 1, -999);
        x.weigh(0, 2, -999);
        x.weigh(0, 0, -999);
        due("10: a large one of little weight before a small one", x.best(0), 3);
        x.add(0, 1, 1);
        x.weigh(0, 3, 999);
        due("10: never a loop", x.best(0), 3);
        make(x, 1, 4, 0, 1, 0, 1, 2, 3, 2, 3);
        x.weigh(1, 1, 2);
        x.weigh(1, 3, 2);
        due("10: the heavier of each", x.best(1), 10);
        x.leave(2, 1, 0, false);
        due("10: weights are 0 there", x.best(2), 5);
        due("10: no edges", x.best(3), 0);
        for (int g : NO_GRAPHS) {
            due("10: no graph " + g, x.best(g), NONE);
        }
    }

    private static void promise11() {
        CommonForests x = triangle();
        make(x, 1, 2, 0, 1, 0, 1, 0, 1);
        due("11: one", x.common(0, 1), 1);
        due("11: the other way", x.common(1, 0), 1);
        due("11: with itself", x.common(0, 0), 3);
        due("11: both without edges", x.common(5, 6), 0);
        x.weigh(0, 2, 9);
        x.weigh(1, 2, 9);
        due("11: whatever they weigh", x.common(0, 1), 1);
        // Edge 0 is a common forest, but none of the largest has it.
        make(x, 2, 4, 0, 1, 0, 1, 2, 3);
        make(x, 3, 4, 0, 1, 2, 3, 0, 1);
        due("11: larger before earlier", x.common(2, 3), 6);
        due("11: not as many edges", x.common(0, 4), NONE);
        due("11: not as many edges", x.common(4, 0), NONE);
        for (int g : NO_GRAPHS) {
            due("11: no graph " + g, x.common(g, 4), NONE);
            due("11: no graph " + g, x.common(4, g), NONE);
            due("11: no graph " + g, x.common(g, g), NONE);
        }
    }

    private static void promise12() {
        CommonForests x = new CommonForests();
        make(x, 0, 7, 0, 1, 0, 1, 0, 1, 3, 4, 5, 6);
        make(x, 1, 9, 0, 1, 2, 3, 4, 5, 7, 8, 7, 8);
        due("12: the common set", x.common(0, 1), 9);
        due("12: one in between", x.cover(0, 1), 7);
        due("12: the other way", x.cover(1, 0), 24);
        due("12: with itself, the least is empty", x.cover(0, 0), 0);
        due("12: both without edges", x.cover(5, 6), 0);
        make(x, 2, 1, 0, 0, 0, 0, 0, 0, 0, 0, 0, 0);
        due("12: loops in the second", x.cover(0, 2), 0);
        due("12: loops in the first", x.cover(2, 0), 31);
        make(x, 3, 3, 0, 0, 1, 2);
        make(x, 4, 3, 0, 1, 1, 2);
        due("12: a loop in the first", x.cover(3, 4), 1);
        due("12: a loop in the second", x.cover(4, 3), 0);
        due("12: not as many edges", x.cover(0, 4), NONE);
        due("12: not as many edges", x.cover(4, 0), NONE);
        for (int g : NO_GRAPHS) {
            due("12: no graph " + g, x.cover(g, 5), NONE);
            due("12: no graph " + g, x.cover(5, g), NONE);
            due("12: no graph " + g, x.cover(g, g), NONE);
        }
    }

    private static void refusedCallsChangeNothing() {
        CommonForests x = triangle();
        x.weigh(0, 1, 6);
        x.begin(0, 14);
        x.add(0, 0, 3);
        x.weigh(0, 1, 1000);
        x.leave(0, 0, 8, false);
        x.leave(0, 0, -1, true);
        x.leave(0, 8, 0, true);
        x.leave(8, 0, 7, true);
        x.beside(0, 0, -1);
        x.beside(0, 8, 0);
        x.beside(8, 0, 0);
        make(x, 1, 1, 0, 0, 0, 0, 0, 0, 0, 0, 0, 0, 0, 0, 0, 0, 0, 0, 0, 0, 0, 0);
        due("refused: 14 edges", x.beside(0, 0, 1), NONE);
        due("refused: edges", x.edges(0), 3);
        due("refused: weight", x.weight(0, 1), 6);
        due("refused: rank", x.rank(0, 7), 2);
        due("refused: still open", x.add(0, 2, 2), 3);
    }

    private static void objectsShareNothing() {
        CommonForests x = triangle();
        CommonForests y = new CommonForests();
        due("another object: no edges", y.edges(0), 0);
        y.begin(0, 2);
        due("another object: begun", x.edges(0), 3);
    }
}
