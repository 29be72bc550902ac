/** Each promise with answers worked out by hand: ordinary inputs, edges, wrong inputs. */
public final class PromiseTests {
    private static final int NONE = -1, BAD = -2;
    private static final int[] AT_FIRST = {3, 1, 1, 256, 4, 0, 256, 256, 0, 0, 0, 0, 0, 0, 0};
    private static final int[] LOWEST = {1, 1, 0, 1, 0, 0, 1, 1, 0, -100, Integer.MIN_VALUE, -1, -1, -1, -1};
    private static final int[] HIGHEST =
        {4, 20, 1000, 256, 12, 1000000, 256, 256, 12, 100, Integer.MAX_VALUE, 1, 1, 1, 1};
    private static final int SEED = 10;

    private static int wrong = 0;

    private static void due(String call, long got, long want) {
        if (got != want) {
            wrong++;
            System.out.println(call + " answered " + got + ", due is " + want);
        }
    }

    public static void main(String[] args) {
        newObject();
        row();
        hold();
        set();
        clear();
        train();
        trainOnSettings();
        trainOnDraws();
        trainWithPatience();
        splits();
        node();
        sum();
        size();
        leaf();
        answer();
        loss();
        best();
        withoutAndTook();
        gain();
        told();
        share();
        count();
        System.out.println(wrong == 0 ? "all answers are as due" : wrong + " answers are not as due");
        if (wrong != 0) {
            System.exit(1);
        }
    }

    /** No ADDEND, one ROUND, a ROOT with at most two LEAVES: easy to work out by hand. */
    private static BoostForests stump() {
        BoostForests x = new BoostForests();
        x.set(0, 1);
        x.set(2, 0);
        x.set(4, 1);
        return x;
    }

    /** ROOT: G -2560, H 2, WORTH 3276800; by COLUMN 0, CUT 0 the RIGHT LEAF has WORTH 6553600, VALUE 2560. */
    private static BoostForests trainedStump() {
        BoostForests x = stump();
        x.row(0, 5, 5, 5, 0, 1);
        x.row(1, 5, 5, 5, 10, 1);
        due("stump train()", x.train(), 1);
        return x;
    }

    private static void newObject() {
        BoostForests x = new BoostForests();
        for (int what = 0; what < 4; what++) {
            due("new count(" + what + ")", x.count(what), 0);
        }
        for (int s = 0; s < 15; s++) {
            due("new setting " + s, x.count(4 + s), AT_FIRST[s]);
        }
        due("new size", x.size(0), BAD);
        due("new node", x.node(0, 0, 0), BAD);
        due("new sum", x.sum(0, 0, 0), 0);
        due("new leaf", x.leaf(0, 0, 0, 0, 0), BAD);
        due("new best", x.best(), BAD);
        due("new loss", x.loss(0, 0), BAD);
        due("new took", x.took(0), BAD);
        due("new without", x.without(0), 0);
        due("new gain", x.gain(0), 0);
        due("NONE", BoostForests.NONE, NONE);
        due("BAD", BoostForests.BAD, BAD);
        x.set(9, 50);
        x.row(1, 1, 1, 1, 1, 1);
        due("answer before training", x.answer(0, 1, 1, 1, 1), 0);
        due("told before training", x.told(0, 1, 1, 1, 1), 0);
        due("share before training", x.share(0, 1, 1, 1, 1), 0);
        due("took before training", x.took(0), BAD);
        due("without before training", x.without(0), 0);
        due("rows of training before one", x.count(3), 0);
    }

    private static void row() {
        BoostForests x = new BoostForests();
        int[] wrongCells = {-2, 32, Integer.MIN_VALUE, Integer.MAX_VALUE};
        for (int v : wrongCells) {
            due("row a " + v, x.row(v, 0, 0, 0, 0, 1), BAD);
            due("row b " + v, x.row(0, v, 0, 0, 0, 1), BAD);
            due("row c " + v, x.row(0, 0, v, 0, 0, 1), BAD);
            due("row d " + v, x.row(0, 0, 0, v, 0, 1), BAD);
        }
        int[] wrongAims = {-101, 101, Integer.MIN_VALUE, Integer.MAX_VALUE};
        for (int v : wrongAims) {
            due("row aim " + v, x.row(0, 0, 0, 0, v, 1), BAD);
        }
        int[] wrongWeights = {0, 9, -1, Integer.MIN_VALUE, Integer.MAX_VALUE};
        for (int v : wrongWeights) {
            due("row weight " + v, x.row(0, 0, 0, 0, 0, v), BAD);
        }
        due("no rows of wrong ones", x.count(0), 0);
        due("lowest row", x.row(-1, -1, -1, -1, -100, 1), 0);
        due("highest row", x.row(31, 31, 31, 31, 100, 8), 1);
        for (int i = 2; i < 40; i++) {
            due("row " + i, x.row(i % 32, 0, 0, 0, 0, 1), i);
        }
        due("row 40", x.row(0, 0, 0, 0, 0, 1), BAD);
        due("40 rows", x.count(0), 40);
        due("none held", x.count(1), 0);
        due("training of 40", x.train(), 4);
    }

    private static void hold() {
        BoostForests x = new BoostForests();
        due("hold of none", x.hold(0, 1), BAD);
        x.row(0, 0, 0, 0, 0, 1);
        due("hold(0, 1)", x.hold(0, 1), 0);
        due("held ones", x.count(1), 1);
        due("hold(0, 1) again", x.hold(0, 1), 1);
        due("hold(0, 2)", x.hold(0, 2), BAD);
        due("hold(0, -1)", x.hold(0, -1), BAD);
        due("hold(1, 1)", x.hold(1, 1), BAD);
        due("hold(-1, 1)", x.hold(-1, 1), BAD);
        due("hold(max, 1)", x.hold(Integer.MAX_VALUE, 1), BAD);
        due("still held", x.count(1), 1);
        due("hold(0, 0)", x.hold(0, 0), 1);
        due("hold(0, 0) again", x.hold(0, 0), 0);
        x.hold(0, 1);
        x.clear();
        x.row(0, 0, 0, 0, 0, 1);
        due("a new row 0 is not held", x.hold(0, 0), 0);
    }

    private static void set() {
        BoostForests x = new BoostForests();
        for (int s = 0; s < 15; s++) {
            due("set lowest " + s, x.set(s, LOWEST[s]), AT_FIRST[s]);
            due("set highest " + s, x.set(s, HIGHEST[s]), LOWEST[s]);
            if (s != SEED) {
                due("set too low " + s, x.set(s, LOWEST[s] - 1), BAD);
                due("set too high " + s, x.set(s, HIGHEST[s] + 1), BAD);
                due("set far too low " + s, x.set(s, Integer.MIN_VALUE), BAD);
                due("set far too high " + s, x.set(s, Integer.MAX_VALUE), BAD);
            }
            due("setting stays " + s, x.count(4 + s), HIGHEST[s]);
        }
        due("set(-1)", x.set(-1, 1), BAD);
        due("set(15)", x.set(15, 1), BAD);
        due("set(max)", x.set(Integer.MAX_VALUE, 1), BAD);
        due("set(min)", x.set(Integer.MIN_VALUE, 1), BAD);
    }

    private static void clear() {
        BoostForests x = new BoostForests();
        due("clear of none", x.clear(), 0);
        x = trainedStump();
        due("clear()", x.clear(), 2);
        due("clear() again", x.clear(), 0);
        due("no rows", x.count(0), 0);
        due("trees stay", x.count(2), 1);
        due("rows of training stay", x.count(3), 2);
        due("size stays", x.size(0), 3);
        due("answer stays", x.answer(1, 1, 0, 0, 0), 2560);
        due("took stays", x.took(1), 1);
        due("loss stays", x.loss(0, 0), 6553600);
        due("train of none", x.train(), BAD);
        due("trees stay behind BAD", x.count(2), 1);
        due("next row is 0", x.row(0, 0, 0, 0, 0, 1), 0);
    }

    private static void train() {
        BoostForests x = new BoostForests();
        due("train of no rows", x.train(), BAD);
        due("no training by BAD", x.best(), BAD);
        x.row(0, 0, 0, 0, 10, 1);
        x.hold(0, 1);
        due("train of held rows", x.train(), BAD);
        due("rows of training", x.count(3), 0);
        x.hold(0, 0);
        due("train()", x.train(), 4);
        due("trees", x.count(2), 4);
        x.set(4, 12);
        due("train of 12", x.train(), 12);
        x.set(4, 0);
        x.set(9, -3);
        due("train of 0", x.train(), 0);
        due("trees before go", x.size(0), BAD);
        due("best of 0 trees", x.best(), 0);
        due("answer of 0 trees", x.answer(0, 0, 0, 0, 0), -768);
        due("told of 0 trees", x.told(5, 0, 0, 0, 0), -768);
        due("without of 0 trees", x.without(0), -768);
        due("took of 0 trees", x.took(0), 0);
        due("share of 0 trees", x.share(0, 0, 0, 0, 0), 0);
        due("loss of 0 trees", x.loss(0, 0), 3328L * 3328L);
        due("rows of training", x.count(3), 1);
    }

    private static void trainOnSettings() {
        BoostForests x = trainedStump();
        x.set(3, 1);
        x.set(9, 100);
        x.hold(1, 1);
        x.row(2, 2, 2, 2, 2, 2);
        due("shrink, base of then", x.answer(1, 1, 0, 0, 0), 2560);
        due("told of then", x.told(1, 1, 0, 0, 0), 2560);
        due("held of then", x.loss(0, 1), 0);
        due("rows of then", x.count(3), 2);
        due("took of a later row", x.took(2), BAD);
        due("without of a later row", x.without(2), 0);
        // G 25600 and 23040, H 1: VALUES -25600 and -23040; by 1 of 256 -100 and -90.
        x.hold(1, 0);
        x.clear();
        x.row(0, 0, 0, 0, 0, 1);
        x.row(1, 0, 0, 0, 10, 1);
        due("train by base", x.train(), 1);
        due("shrunk", x.answer(1, 0, 0, 0, 0), 25500);
        due("shrunk right", x.answer(1, 1, 0, 0, 0), 25510);
        // VALUES of -1280 and 1280 by 255 of 256, cut towards 0: -1275; a VALUE of 853 by 3: 9.99.
        BoostForests y = stump();
        y.set(3, 255);
        y.row(0, 0, 0, 0, -5, 1);
        y.row(1, 0, 0, 0, 5, 1);
        y.train();
        due("-1280 by 255", y.answer(1, 0, 0, 0, 0), -1275);
        y.set(3, 3);
        y.set(2, 1);
        y.clear();
        y.row(0, 0, 0, 0, -5, 2);
        y.train();
        due("VALUE cut towards 0", y.sum(0, 0, 1), -853);
        due("shrunk towards 0", y.answer(1, 0, 0, 0, 0), -9);
    }

    private static int drawn(int seed, int a) {
        long x = (seed + 1000003L * a) & 0xffffffffL;
        x = ((x ^ (x >>> 15)) * 0x2c1b3c6dL) & 0xffffffffL;
        x = ((x ^ (x >>> 12)) * 0x297a2d39L) & 0xffffffffL;
        return (int) (x >>> 24);
    }

    private static void trainOnDraws() {
        int[] seeds = {0, 1, 77, -5, Integer.MIN_VALUE, Integer.MAX_VALUE};
        for (int seed : seeds) {
            BoostForests x = new BoostForests();
            x.set(0, 1);
            // Without ADDEND a split costs nothing, so that a drawn column is always used.
            x.set(2, 0);
            x.set(4, 12);
            x.set(6, 100);
            x.set(7, 120);
            x.set(10, seed);
            for (int i = 0; i < 40; i++) {
                x.row(i % 32, i % 32, i % 32, i % 32, i * 2, 1);
            }
            x.hold(3, 1);
            x.train();
            int[] tookDue = new int[40];
            for (int r = 0; r < 12; r++) {
                int rows = 0;
                for (int i = 0; i < 40; i++) {
                    if (i != 3 && drawn(seed, 64 * r + i) < 100) {
                        rows++;
                        tookDue[i]++;
                    }
                }
                int column = NONE;
                for (int c = 3; c >= 0; c--) {
                    column = drawn(seed, 100000 + 4 * r + c) < 120 ? c : column;
                }
                due("seed " + seed + " rows of tree " + r, x.node(r, 0, 4), rows);
                due("seed " + seed + " column of tree " + r, x.node(r, 0, 0), column);
            }
            for (int i = 0; i < 40; i++) {
                due("seed " + seed + " took " + i, x.took(i), tookDue[i]);
            }
        }
    }

    private static void trainWithPatience() {
        for (int patience = 0; patience <= 12; patience++) {
            BoostForests x = new BoostForests();
            x.set(4, 10);
            x.set(8, patience);
            x.row(0, 0, 0, 0, 50, 8);
            x.row(0, 0, 0, 0, -50, 1);
            due("patience without held rows", x.train(), 10);
            due("best without held rows", x.best(), 10);
            x.hold(1, 1);
            // The held row's loss grows at first, and then stays: it never becomes less.
            due("patience " + patience, x.train(), patience == 0 ? 10 : Math.min(10, patience));
            due("best ahead of all", x.best(), 0);
            x.clear();
            x.row(0, 0, 0, 0, 100, 1);
            x.row(0, 0, 0, 0, 100, 1);
            x.hold(1, 1);
            // By ADDEND 1 every round takes half of 25600, cut towards 0, to the last unit.
            due("patience with gains", x.train(), 10);
            due("best with gains", x.best(), 10);
        }
        BoostForests x = stump();
        x.set(4, 12);
        x.set(8, 2);
        x.row(0, 0, 0, 0, 10, 1);
        x.row(0, 0, 0, 0, 10, 1);
        x.hold(1, 1);
        // All is fitted behind round 0; rounds 1 and 2 gain nothing.
        due("patience behind a gain", x.train(), 3);
        due("best, the first of equals", x.best(), 1);
    }

    private static void expectSplit(String name, BoostForests x, int column, int cut, int side) {
        x.train();
        due(name + " column", x.node(0, 0, 0), column);
        due(name + " cut", x.node(0, 0, 1), cut);
        due(name + " side", x.node(0, 0, 2), side);
    }

    private static BoostForests stumpOf(int[] firstColumn, int[] aims) {
        BoostForests x = stump();
        for (int i = 0; i < aims.length; i++) {
            x.row(firstColumn[i], 7, 7, 7, aims[i], 1);
        }
        return x;
    }

    private static void splits() {
        expectSplit("missing right", stumpOf(new int[] {0, 1, -1}, new int[] {0, 10, 10}), 0, 0, 1);
        expectSplit("missing left", stumpOf(new int[] {0, 1, -1}, new int[] {0, 10, 0}), 0, 0, 0);
        expectSplit("missing between", stumpOf(new int[] {0, 1, -1}, new int[] {0, 10, 5}), 0, 0, 0);
        expectSplit("none missing", stumpOf(new int[] {3, 9}, new int[] {0, 10}), 0, 3, 0);
        expectSplit("least cut of equals", stumpOf(new int[] {0, 1, 2}, new int[] {0, 10, 0}), 0, 0, 0);
        expectSplit("greatest cut", stumpOf(new int[] {0, 30, 31}, new int[] {0, 0, 10}), 0, 30, 0);
        expectSplit("all alike", stumpOf(new int[] {4, 4}, new int[] {0, 10}), NONE, NONE, NONE);
        expectSplit("all missing", stumpOf(new int[] {-1, -1}, new int[] {0, 10}), NONE, NONE, NONE);
        expectSplit("missing is no cut", stumpOf(new int[] {-1, 5}, new int[] {0, 10}), NONE, NONE, NONE);
        expectSplit("no gain", stumpOf(new int[] {0, 1}, new int[] {10, 10}), NONE, NONE, NONE);

        BoostForests x = stump();
        x.row(9, 9, 0, 0, 0, 1);
        x.row(9, 9, 1, 1, 10, 1);
        expectSplit("least column of equals", x, 2, 0, 0);
        x.set(13, 1);
        expectSplit("sign 1 of a rise", x, 2, 0, 0);
        x.set(13, -1);
        expectSplit("sign -1 of a rise", x, 3, 0, 0);
        x.set(14, -1);
        expectSplit("sign -1 of both", x, NONE, NONE, NONE);
        x.clear();
        x.row(9, 9, 0, 0, 10, 1);
        x.row(9, 9, 1, 1, 0, 1);
        expectSplit("sign -1 of a fall", x, 2, 0, 0);
        x.set(13, 1);
        expectSplit("sign 1 of a fall", x, 3, 0, 0);

        // WORTHS: 32768 of the ROOT, 65536 of the RIGHT side.
        x = stumpOf(new int[] {0, 1}, new int[] {0, 1});
        x.set(5, 32768);
        expectSplit("at GAIN", x, NONE, NONE, NONE);
        x.set(5, 32767);
        expectSplit("above GAIN", x, 0, 0, 0);
        due("difference", x.sum(0, 0, 2), 32768);

        x = stumpOf(new int[] {0, 1, 2, 3}, new int[] {0, 0, 0, 40});
        expectSplit("least 1", x, 0, 2, 0);
        x.set(1, 2);
        expectSplit("least 2", x, 0, 1, 0);
        x.set(1, 3);
        expectSplit("least 3 of 4", x, NONE, NONE, NONE);
        x.row(-1, 7, 7, 7, 0, 1);
        x.row(-1, 7, 7, 7, 0, 1);
        // CUT 0 with the missing LEFT and CUT 2 with them RIGHT have three rows at each side.
        expectSplit("missing count at a side", x, 0, 0, 0);
        due("left rows", x.node(0, 1, 4), 3);
        due("right rows", x.node(0, 2, 4), 3);

        // Equal VALUES keep either sign: 256 by 301 is cut to 0; the WORTHS are 217 and, of the ROOT, 212.
        x = stump();
        x.row(0, 7, 7, 7, 0, 8);
        x.row(1, 7, 7, 7, 1, 1);
        x.set(2, 300);
        x.set(11, 1);
        expectSplit("sign 1 of equal values", x, 0, 0, 0);
        x.set(11, -1);
        expectSplit("sign -1 of equal values", x, 0, 0, 0);
        due("small difference", x.sum(0, 0, 2), 5);
        due("left value", x.sum(0, 1, 1), 0);
        due("right value", x.sum(0, 2, 1), 0);
    }

    private static void node() {
        BoostForests x = trainedStump();
        int[][] want = {{0, 0, 0, 1, 2, 2, 0}, {-1, -1, -1, -1, 1, 1, 1}, {-1, -1, -1, -1, 1, 1, 1}};
        for (int i = 0; i < 3; i++) {
            for (int what = 0; what < 7; what++) {
                due("node(0, " + i + ", " + what + ")", x.node(0, i, what), want[i][what]);
            }
        }
        int[][] none = {{0, 0, 7}, {0, 0, -1}, {0, 3, 0}, {0, -1, 0}, {1, 0, 0}, {-1, 0, 0},
            {Integer.MAX_VALUE, 0, 0}, {0, Integer.MAX_VALUE, 0}, {0, 0, Integer.MIN_VALUE}};
        for (int[] c : none) {
            due("node of none such", x.node(c[0], c[1], c[2]), BAD);
            due("sum of none such", x.sum(c[0], c[1], c[2]), 0);
        }
        // Numbers as they come: ROOT 0, its sides 1 and 2, then those of 1, then those of 2.
        BoostForests y = stump();
        y.set(0, 2);
        y.row(0, 0, 0, 0, 0, 1);
        y.row(1, 0, 0, 0, 10, 1);
        y.row(2, 0, 0, 0, 70, 1);
        y.row(3, 0, 0, 0, 80, 1);
        y.train();
        due("left of 0", y.node(0, 0, 3), 1);
        due("left of 1", y.node(0, 1, 3), 3);
        due("left of 2", y.node(0, 2, 3), 5);
        due("depth of 6", y.node(0, 6, 6), 2);
        due("leaf at depth", y.node(0, 6, 0), NONE);
        due("size", y.size(0), 7);
    }

    private static void sum() {
        BoostForests x = trainedStump();
        long[][] want = {{-2560, 1280, 3276800}, {0, 0, 0}, {-2560, 2560, 0}};
        for (int i = 0; i < 3; i++) {
            for (int what = 0; what < 3; what++) {
                due("sum(0, " + i + ", " + what + ")", x.sum(0, i, what), want[i][what]);
            }
        }
        due("sum(0, 0, 3)", x.sum(0, 0, 3), 0);
        // With ADDEND 1: 2560 by 3, and 2560 * 2560 by 2 less 2560 * 2560 by 3, each cut.
        x.set(2, 1);
        x.train();
        due("value by addend", x.sum(0, 0, 1), 853);
        due("difference by addend", x.sum(0, 0, 2), 3276800 - 2184533);
    }

    private static void size() {
        BoostForests x = trainedStump();
        due("size(0)", x.size(0), 3);
        due("size(1)", x.size(1), BAD);
        due("size(-1)", x.size(-1), BAD);
        due("size(max)", x.size(Integer.MAX_VALUE), BAD);
        BoostForests y = new BoostForests();
        y.set(0, 4);
        y.set(2, 0);
        for (int i = 0; i < 32; i++) {
            y.row(i, 0, 0, 0, 3 * i, 1);
        }
        y.train();
        due("greatest size", y.size(0), 31);
        // No row drawn at all: a ROOT alone, of no ROWS, that adds nothing.
        BoostForests z = stump();
        z.row(0, 0, 0, 0, 10, 1);
        z.set(6, 1);
        z.set(10, 77);
        z.train();
        due("size of a tree of no rows", z.size(0), 1);
        due("its rows", z.node(0, 0, 4), 0);
        due("its H", z.node(0, 0, 5), 0);
        due("its G", z.sum(0, 0, 0), 0);
        due("its VALUE", z.sum(0, 0, 1), 0);
        due("its answer", z.answer(1, 0, 0, 0, 0), 0);
        due("its told", z.told(0, 0, 0, 0, 0), 0);
        due("took of none", z.took(0), 0);
    }

    private static void leaf() {
        BoostForests x = trainedStump();
        due("leaf of 0", x.leaf(0, 0, 0, 0, 0), 1);
        due("leaf of 1", x.leaf(0, 1, 0, 0, 0), 2);
        due("leaf of 31", x.leaf(0, 31, -1, -1, -1), 2);
        due("leaf of missing", x.leaf(0, -1, 31, 31, 31), 1);
        due("leaf(1)", x.leaf(1, 0, 0, 0, 0), BAD);
        due("leaf(-1)", x.leaf(-1, 0, 0, 0, 0), BAD);
        int[] wrongCells = {-2, 32, Integer.MIN_VALUE, Integer.MAX_VALUE};
        for (int v : wrongCells) {
            due("leaf a", x.leaf(0, v, 0, 0, 0), BAD);
            due("leaf b", x.leaf(0, 0, v, 0, 0), BAD);
            due("leaf c", x.leaf(0, 0, 0, v, 0), BAD);
            due("leaf d", x.leaf(0, 0, 0, 0, v), BAD);
            due("answer a", x.answer(1, v, 1, 1, 1), 0);
            due("answer b", x.answer(1, 1, v, 1, 1), 0);
            due("answer c", x.answer(1, 1, 1, v, 1), 0);
            due("answer d", x.answer(1, 1, 1, 1, v), 0);
            due("told a", x.told(15, v, 1, 1, 1), 0);
            due("told b", x.told(15, 1, v, 1, 1), 0);
            due("told c", x.told(15, 1, 1, v, 1), 0);
            due("told d", x.told(15, 1, 1, 1, v), 0);
            due("share a", x.share(0, v, 1, 1, 1), 0);
            due("share b", x.share(0, 1, v, 1, 1), 0);
            due("share c", x.share(0, 1, 1, v, 1), 0);
            due("share d", x.share(0, 1, 1, 1, v), 0);
        }
        BoostForests y = stumpOf(new int[] {0, 1, -1}, new int[] {0, 10, 10});
        y.train();
        due("missing goes right", y.leaf(0, -1, 0, 0, 0), 2);
    }

    private static void answer() {
        BoostForests x = trainedStump();
        due("answer(0)", x.answer(0, 1, 0, 0, 0), 0);
        due("answer(1)", x.answer(1, 1, 0, 0, 0), 2560);
        due("answer left", x.answer(1, 0, 0, 0, 0), 0);
        due("answer(2)", x.answer(2, 1, 0, 0, 0), 0);
        due("answer(-1)", x.answer(-1, 1, 0, 0, 0), 0);
        due("answer(max)", x.answer(Integer.MAX_VALUE, 1, 0, 0, 0), 0);
        x.set(9, 7);
        x.set(4, 2);
        x.set(3, 128);
        x.train();
        // 1792 at first; left over 768 of 2560, half of it (384), half of the rest (192).
        due("base", x.answer(0, 1, 0, 0, 0), 1792);
        due("one tree", x.answer(1, 1, 0, 0, 0), 2176);
        due("two trees", x.answer(2, 1, 0, 0, 0), 2368);
    }

    private static void loss() {
        BoostForests x = stump();
        x.row(0, 0, 0, 0, 10, 2);
        x.row(0, 0, 0, 0, -10, 3);
        x.hold(1, 1);
        x.train();
        due("loss(0, 0)", x.loss(0, 0), 2L * 2560 * 2560);
        due("loss(0, 1)", x.loss(0, 1), 3L * 2560 * 2560);
        due("loss(1, 0)", x.loss(1, 0), 0);
        due("loss(1, 1)", x.loss(1, 1), 3L * 5120 * 5120);
        due("loss(2, 0)", x.loss(2, 0), BAD);
        due("loss(-1, 0)", x.loss(-1, 0), BAD);
        due("loss(0, 2)", x.loss(0, 2), BAD);
        due("loss(0, -1)", x.loss(0, -1), BAD);
        due("loss(max, 0)", x.loss(Integer.MAX_VALUE, 0), BAD);
        x.hold(1, 0);
        x.set(6, 1);
        x.train();
        due("loss counts rows that were not drawn", x.loss(0, 0), 5L * 2560 * 2560);
        due("loss of none held", x.loss(0, 1), 0);
    }

    private static void best() {
        BoostForests x = trainedStump();
        due("best of none held", x.best(), 1);
        x.row(1, 0, 0, 0, 10, 1);
        x.hold(2, 1);
        x.set(4, 5);
        due("train", x.train(), 5);
        due("best, the first of equals", x.best(), 1);
        x.hold(2, 0);
        due("best is of then", x.best(), 1);
        x.clear();
        due("best stays", x.best(), 1);
    }

    private static void withoutAndTook() {
        BoostForests x = trainedStump();
        due("without of one that took part", x.without(1), 0);
        due("took", x.took(1), 1);
        x.row(1, 0, 0, 0, 4, 1);
        x.hold(2, 1);
        x.set(9, 2);
        x.train();
        due("without of a held row", x.without(2), 2560);
        due("without of one that took part is the base", x.without(1), 512);
        due("took of a held row", x.took(2), 0);
        int[] none = {-1, 3, 40, Integer.MAX_VALUE, Integer.MIN_VALUE};
        for (int i : none) {
            due("took(" + i + ")", x.took(i), BAD);
            due("without(" + i + ")", x.without(i), 0);
        }
    }

    private static void gain() {
        BoostForests x = trainedStump();
        due("gain(0)", x.gain(0), 3276800);
        due("gain(1)", x.gain(1), 0);
        due("gain(-1)", x.gain(-1), 0);
        due("gain(4)", x.gain(4), 0);
        due("gain(max)", x.gain(Integer.MAX_VALUE), 0);
        x.set(3, 128);
        x.set(4, 2);
        x.train();
        // Round 1: 1280 is left over of 2560.
        due("gain of two trees", x.gain(0), 3276800 + 819200);
    }

    private static void told() {
        BoostForests x = trainedStump();
        due("told knowing it", x.told(1, 1, 0, 0, 0), 2560);
        due("told knowing it, left", x.told(1, 0, 0, 0, 0), 0);
        due("told knowing it missing", x.told(1, -1, 0, 0, 0), 0);
        due("told knowing nothing", x.told(0, 1, 0, 0, 0), 1280);
        due("told knowing others", x.told(14, 1, 0, 0, 0), 1280);
        due("told knowing all", x.told(15, 1, 0, 0, 0), 2560);
        due("told(16)", x.told(16, 1, 0, 0, 0), 0);
        due("told(-1)", x.told(-1, 1, 0, 0, 0), 0);
        due("told(max)", x.told(Integer.MAX_VALUE, 1, 0, 0, 0), 0);
        // Sides of 2 rows (0) and of 1 (-256): -256 by 3, downward; weights do not count.
        BoostForests y = stump();
        y.row(0, 0, 0, 0, 0, 1);
        y.row(0, 0, 0, 0, 0, 1);
        y.row(1, 0, 0, 0, -1, 8);
        y.train();
        due("told downward", y.told(0, 1, 0, 0, 0), -86);
        y.set(9, 1);
        y.set(3, 128);
        y.train();
        // Leaves add -128 and -256: -512 by 3, downward, and the base.
        due("told with base and shrink", y.told(0, 1, 0, 0, 0), 256 - 171);
    }

    private static void share() {
        BoostForests x = trainedStump();
        due("share(0) right", x.share(0, 1, 0, 0, 0), 24 * 1280);
        due("share(0) left", x.share(0, 0, 0, 0, 0), -24 * 1280);
        due("share(1)", x.share(1, 1, 0, 0, 0), 0);
        due("share(-1)", x.share(-1, 1, 0, 0, 0), 0);
        due("share(4)", x.share(4, 1, 0, 0, 0), 0);
        due("share(max)", x.share(Integer.MAX_VALUE, 1, 0, 0, 0), 0);
        // Both of two columns are needed: a leaf of 2560 at (1, 1), of 0 else.
        BoostForests y = stump();
        y.set(0, 2);
        y.row(0, 0, 0, 0, 0, 1);
        y.row(0, 1, 0, 0, 0, 1);
        y.row(1, 0, 0, 0, 0, 1);
        y.row(1, 1, 0, 0, 10, 1);
        y.train();
        // Told: nothing 640, one 1280, both 2560: 12 times (1280 - 640) and (2560 - 1280).
        due("share of one of two", y.share(0, 1, 1, 0, 0), 12 * 640 + 12 * 1280);
        due("share of the other", y.share(1, 1, 1, 0, 0), 12 * 640 + 12 * 1280);
        due("share of none of them", y.share(2, 1, 1, 0, 0), 0);
    }

    private static void count() {
        BoostForests x = trainedStump();
        x.row(1, 1, 1, 1, 1, 1);
        x.hold(0, 1);
        due("rows", x.count(0), 3);
        due("held", x.count(1), 1);
        due("trees", x.count(2), 1);
        due("rows of training", x.count(3), 2);
        x.train();
        due("rows of training with held ones", x.count(3), 3);
        for (int s = 0; s < 15; s++) {
            x.set(s, HIGHEST[s]);
            due("setting " + s, x.count(4 + s), HIGHEST[s]);
        }
        due("count(19)", x.count(19), BAD);
        due("count(-1)", x.count(-1), BAD);
        due("count(max)", x.count(Integer.MAX_VALUE), BAD);
        due("count(min)", x.count(Integer.MIN_VALUE), BAD);
        x.clear();
        due("held behind clear", x.count(1), 0);
    }
}
