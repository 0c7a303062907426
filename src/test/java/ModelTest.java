import java.util.Random;

/** Long runs of calls, the same each time, with every answer held against the model's. */
public final class ModelTest {
    private static final int OBJECTS = 500;
    private static final int CALLS = 512;
    private static final int[] WILD = {
        -1, -2, 8, 9, 12, 13, 14, 31, 32, 33, 64, 1000, -1000, 4095, 4096, 1 << 30,
        Integer.MAX_VALUE, Integer.MIN_VALUE, Integer.MIN_VALUE + 1
    };

    private final Random random;
    private final Check check;
    private final CommonForests x = new CommonForests();
    private final Model model = new Model();
    private final int[] vertices = {1, 1, 1, 1, 1, 1, 1, 1};
    private final int wildOneIn;
    private int innerCovers = 0;

    private ModelTest(long seed, Check check) {
        this.random = new Random(seed);
        this.check = check;
        this.wildOneIn = seed % 8 == 0 ? 8 : 60;
    }

    public static void main(String[] args) {
        Check check = new Check();
        int innerCovers = 0;
        for (int seed = 0; seed < OBJECTS && check.wrong() == 0; seed++) {
            ModelTest test = new ModelTest(seed, check);
            if (seed % 2 == 0) {
                test.run(seed);
            } else {
                test.runOfPairs(seed);
            }
            innerCovers += test.innerCovers;
        }
        // Covers that are neither empty nor all edges are the ones that tell a wrong one.
        check.due("many covers in between", innerCovers > 2000, true);
        check.end();
    }

    /** Each turn is one call of the object, as nothing is promised after the 512th. */
    private void run(int seed) {
        for (int turn = 0; turn < CALLS && check.wrong() == 0; turn++) {
            String where = "seed " + seed + ", call " + turn + ": ";
            if (turn % 128 < 64) {
                change(where);
            } else {
                ask(where);
            }
        }
    }

    /** Sixteen pairs of graphs with as many edges, 30 calls at most for each. */
    private void runOfPairs(int seed) {
        for (int turn = 0; turn < 16 && check.wrong() == 0; turn++) {
            String where = "seed " + seed + ", pair " + turn + ": ";
            int n = 12 - random.nextInt(random.nextBoolean() ? 3 : 13);
            int crowd = random.nextInt(1 << n);
            makeCrowded(0, n, crowd);
            makeCrowded(1, n, ~crowd);
            common(where, 0, 1);
            common(where, 1, 0);
            cover(where, 0, 1);
            cover(where, 1, 0);
        }
    }

    /** The edges of a set lie between few vertices, the others anywhere. */
    private void makeCrowded(int g, int n, int crowd) {
        int v = 3 + random.nextInt(11);
        int few = 1 + random.nextInt(Math.min(v, 5));
        x.begin(g, v);
        model.begin(g, v);
        for (int e = 0; e < n; e++) {
            int among = (crowd >> e & 1) == 1 ? few : v;
            int a = random.nextInt(among);
            int b = random.nextInt(among);
            x.add(g, a, b);
            model.add(g, a, b);
        }
    }

    private void change(String where) {
        int kind = random.nextInt(20);
        if (kind < 2) {
            begin(where);
        } else if (kind < 14) {
            add(where);
        } else if (kind < 16) {
            weigh(where);
        } else if (kind < 18) {
            leave(where);
        } else {
            beside(where);
        }
    }

    private void begin(String where) {
        int g = graph();
        int v = wild(1 + random.nextInt(random.nextBoolean() ? 13 : 5));
        boolean got = x.begin(g, v);
        check.due(where + "begin(" + g + ", " + v + ")", got, model.begin(g, v));
        if (got && g >= 0 && g < 8) {
            vertices[g] = v;
        }
    }

    private void add(String where) {
        int g = graph();
        int v = g >= 0 && g < 8 ? vertices[g] : 1;
        int a = wild(random.nextInt(v));
        int b = wild(random.nextInt(v));
        check.due(where + "add(" + g + ", " + a + ", " + b + ")", x.add(g, a, b), model.add(g, a, b));
    }

    private void weigh(String where) {
        int g = graph();
        int e = wild(random.nextInt(12));
        int most = random.nextBoolean() ? 2 : 999;
        int w = wild(random.nextInt(2 * most + 1) - most);
        check.due(where + "weigh(" + g + ", " + e + ", " + w + ")", x.weigh(g, e, w), model.weigh(g, e, w));
    }

    private void leave(String where) {
        int to = graph();
        int g = graph();
        int set = set(g) & (random.nextBoolean() ? -1 : set(g));
        boolean joined = random.nextBoolean();
        check.due(where + "leave(" + to + ", " + g + ", " + set + ", " + joined + ")",
                x.leave(to, g, set, joined), model.leave(to, g, set, joined));
    }

    private void beside(String where) {
        int to = graph();
        int g = graph();
        int h = graph();
        check.due(where + "beside(" + to + ", " + g + ", " + h + ")",
                x.beside(to, g, h), model.beside(to, g, h));
    }

    private void ask(String where) {
        int g = graph();
        int set = set(g);
        int e = wild(random.nextInt(12));
        switch (random.nextInt(8)) {
            case 0 -> check.due(where + "edges(" + g + ")", x.edges(g), model.edges(g));
            case 1 -> check.due(where + "weight(" + g + ", " + e + ")", x.weight(g, e), model.weight(g, e));
            case 2 -> check.due(where + "rank(" + g + ", " + set + ")", x.rank(g, set), model.rank(g, set));
            case 3 -> check.due(where + "best(" + g + ")", x.best(g), model.best(g));
            case 4, 5 -> common(where, g, partner(g));
            default -> cover(where, g, partner(g));
        }
    }

    private void common(String where, int g, int h) {
        check.due(where + "common(" + g + ", " + h + ")", x.common(g, h), model.common(g, h));
    }

    private void cover(String where, int g, int h) {
        int cover = model.cover(g, h);
        check.due(where + "cover(" + g + ", " + h + ")", x.cover(g, h), cover);
        if (cover > 0 && cover != (1 << model.edges(g)) - 1) {
            innerCovers++;
        }
    }

    private int graph() {
        return wild(random.nextInt(random.nextBoolean() ? 8 : 4));
    }

    /** A graph with as many edges, if the first try or one of some others finds one. */
    private int partner(int g) {
        int h = graph();
        for (int turn = 0; turn < 8 && model.edges(h) != model.edges(g); turn++) {
            h = graph();
        }
        return h;
    }

    private int set(int g) {
        int n = Math.max(0, model.edges(g));
        return wild(random.nextInt(1 << n));
    }

    private int wild(int tame) {
        return random.nextInt(wildOneIn) == 0 ? WILD[random.nextInt(WILD.length)] : tame;
    }
}
