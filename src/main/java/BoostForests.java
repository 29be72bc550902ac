/**
 * Boosted trees over small tables, in whole numbers of 256ths (UNITS).
 *
 * All room is made with the object: training again and asking make nothing new.
 */
public final class BoostForests {
    public static final int NONE = -1, BAD = -2;

    private static final int COLUMNS = 4, MASKS = 16, HIGHEST_CELL = 31;
    private static final int MOST_AIM = 100, MOST_WEIGHT = 8, UNITS = 256;
    private static final int MOST_ROWS = 40, MOST_TREES = 12, MOST_DEPTH = 4, MOST_NODES = 31;

    private static final int DEPTH = 0, LEAST = 1, ADDEND = 2, SHRINK = 3, ROUNDS = 4, GAIN = 5;
    private static final int ROWS_SHARE = 6, COLUMNS_SHARE = 7, PATIENCE = 8, BASE = 9, SEED = 10, SIGN = 11;
    private static final int SETTINGS = 15;
    private static final int[] AT_FIRST = {3, 1, 1, 256, 4, 0, 256, 256, 0, 0, 0, 0, 0, 0, 0};
    private static final int[] LOWEST = {1, 1, 0, 1, 0, 0, 1, 1, 0, -100, -2147483648, -1, -1, -1, -1};
    private static final int[] HIGHEST = {4, 20, 1000, 256, 12, 1000000, 256, 256, 12, 100, 2147483647, 1, 1, 1, 1};

    private static final int LEFT = 0, RIGHT = 1;

    // What node() and sum() tell of a node, by the numbers that the document gives.
    private static final int OF_COLUMN = 0, OF_CUT = 1, OF_SIDE = 2, OF_LEFT = 3, OF_ROWS = 4, OF_H = 5, OF_DEPTH = 6;
    private static final int FACTS = 7;
    private static final int OF_G = 0, OF_VALUE = 1, OF_DIFFERENCE = 2;
    private static final int SUMS = 3;

    private static final int FITTED = 0, HELD = 1;

    private static final int COUNT_ROWS = 0, COUNT_HELD = 1, COUNT_TREES = 2, COUNT_TRAINED = 3, COUNT_SETTINGS = 4;

    private final Table table;
    private final int[] settings;
    private final Training training;
    private final int[] asked;

    public BoostForests() {
        table = new Table();
        settings = AT_FIRST.clone();
        training = new Training();
        asked = new int[COLUMNS];
    }

    public int row(int a, int b, int c, int d, int aim, int weight) {
        if (!areCells(a, b, c, d) || !isWithin(aim, -MOST_AIM, MOST_AIM) || !isWithin(weight, 1, MOST_WEIGHT)) {
            return BAD;
        }
        keepAsked(a, b, c, d);
        return table.append(asked, aim, weight);
    }

    public int hold(int row, int v) {
        if (!isIndex(row, table.number) || !isWithin(v, 0, 1)) {
            return BAD;
        }
        int before = table.held[row] ? 1 : 0;
        table.held[row] = v == 1;
        return before;
    }

    public int set(int what, int v) {
        if (!isIndex(what, SETTINGS) || !isWithin(v, LOWEST[what], HIGHEST[what])) {
            return BAD;
        }
        int before = settings[what];
        settings[what] = v;
        return before;
    }

    public int clear() {
        int before = table.number;
        table.number = 0;
        return before;
    }

    public int train() {
        if (table.heldRows() == table.number) {
            return BAD;
        }
        training.run(table, settings);
        return training.made;
    }

    public int node(int tree, int i, int what) {
        if (!isNode(tree, i) || !isIndex(what, FACTS)) {
            return BAD;
        }
        return training.trees[tree].facts[what][i];
    }

    public long sum(int tree, int i, int what) {
        if (!isNode(tree, i) || !isIndex(what, SUMS)) {
            return 0;
        }
        return training.trees[tree].sums[what][i];
    }

    public int size(int tree) {
        return isIndex(tree, training.made) ? training.trees[tree].nodes : BAD;
    }

    public int leaf(int tree, int a, int b, int c, int d) {
        if (!isIndex(tree, training.made) || !areCells(a, b, c, d)) {
            return BAD;
        }
        keepAsked(a, b, c, d);
        return training.trees[tree].leafOf(asked);
    }

    public long answer(int n, int a, int b, int c, int d) {
        if (!training.done || !isWithin(n, 0, training.made) || !areCells(a, b, c, d)) {
            return 0;
        }
        keepAsked(a, b, c, d);
        return training.answerBy(n, asked);
    }

    public long loss(int n, int what) {
        if (!training.done || !isWithin(n, 0, training.made) || !isWithin(what, FITTED, HELD)) {
            return BAD;
        }
        return training.losses[what][n];
    }

    public int best() {
        return training.done ? training.treesOfLeastLoss() : BAD;
    }

    public long without(int i) {
        return isTrainedRow(i) ? training.leftOut(i) : 0;
    }

    public int took(int i) {
        return isTrainedRow(i) ? Integer.bitCount(training.tookPart[i]) : BAD;
    }

    public long gain(int column) {
        return isIndex(column, COLUMNS) ? training.gainBy(column) : 0;
    }

    public long told(int mask, int a, int b, int c, int d) {
        if (!training.done || !isIndex(mask, MASKS) || !areCells(a, b, c, d)) {
            return 0;
        }
        keepAsked(a, b, c, d);
        return training.tellAll(mask, asked);
    }

    public long share(int column, int a, int b, int c, int d) {
        if (!training.done || !isIndex(column, COLUMNS) || !areCells(a, b, c, d)) {
            return 0;
        }
        keepAsked(a, b, c, d);
        return training.fairShare(column, asked);
    }

    public int count(int what) {
        switch (what) {
            case COUNT_ROWS:
                return table.number;
            case COUNT_HELD:
                return table.heldRows();
            case COUNT_TREES:
                return training.made;
            case COUNT_TRAINED:
                return training.done ? training.rows.number : 0;
            default:
                return isWithin(what, COUNT_SETTINGS, COUNT_SETTINGS + SETTINGS - 1)
                    ? settings[what - COUNT_SETTINGS] : BAD;
        }
    }

    private boolean isNode(int tree, int i) {
        return isIndex(tree, training.made) && isIndex(i, training.trees[tree].nodes);
    }

    private boolean isTrainedRow(int i) {
        return training.done && isIndex(i, training.rows.number);
    }

    private void keepAsked(int a, int b, int c, int d) {
        asked[0] = a;
        asked[1] = b;
        asked[2] = c;
        asked[3] = d;
    }

    private static boolean areCells(int a, int b, int c, int d) {
        return isWithin(a, NONE, HIGHEST_CELL) && isWithin(b, NONE, HIGHEST_CELL)
            && isWithin(c, NONE, HIGHEST_CELL) && isWithin(d, NONE, HIGHEST_CELL);
    }

    private static boolean isIndex(int i, int length) {
        return i >= 0 && i < length;
    }

    private static boolean isWithin(int v, int lowest, int highest) {
        return v >= lowest && v <= highest;
    }

    /** The rows of a table. */
    private static final class Table {
        final int[][] cells = new int[MOST_ROWS][COLUMNS];
        final int[] aims = new int[MOST_ROWS];
        final int[] weights = new int[MOST_ROWS];
        final boolean[] held = new boolean[MOST_ROWS];
        int number;

        int append(int[] numbers, int aim, int weight) {
            if (number >= MOST_ROWS) {
                return BAD;
            }
            int i = number;
            System.arraycopy(numbers, 0, cells[i], 0, COLUMNS);
            aims[i] = aim;
            weights[i] = weight;
            held[i] = false;
            number = i + 1;
            return i;
        }

        int heldRows() {
            int found = 0;
            for (int i = 0; i < number; i++) {
                if (held[i]) {
                    found++;
                }
            }
            return found;
        }

        void copyFrom(Table other) {
            number = 0;
            for (int i = 0; i < other.number; i++) {
                append(other.cells[i], other.aims[i], other.weights[i]);
                held[i] = other.held[i];
            }
        }
    }

    /** Rows, slopes and weights of a node, or of one side of a cut. */
    private static final class Sums {
        int rows;
        int h;
        long g;

        void empty() {
            rows = 0;
            h = 0;
            g = 0;
        }

        void addRow(long slope, int weight) {
            rows++;
            h += weight;
            g += slope;
        }

        void becomeSum(Sums one, Sums other) {
            rows = one.rows + other.rows;
            h = one.h + other.h;
            g = one.g + other.g;
        }

        void becomeRest(Sums all, Sums part) {
            rows = all.rows - part.rows;
            h = all.h - part.h;
            g = all.g - part.g;
        }

        long valueWith(int addend) {
            long by = (long) h + addend;
            return by == 0 ? 0 : -g / by;
        }

        long worthWith(int addend) {
            long by = (long) h + addend;
            return by == 0 ? 0 : g * g / by;
        }
    }

    /** The best split that was found for a node so far; of no column, if none was. */
    private static final class Split {
        int column;
        int cut;
        int side;
        long difference;

        void forget(long floor) {
            become(NONE, NONE, NONE, floor);
        }

        void become(int byColumn, int atCut, int missingTo, long worths) {
            column = byColumn;
            cut = atCut;
            side = missingTo;
            difference = worths;
        }
    }

    /** The nodes of a tree, each with a greater number than the one above it. */
    private static final class Tree {
        final int[][] facts = new int[FACTS][MOST_NODES];
        final long[][] sums = new long[SUMS][MOST_NODES];
        int nodes;

        void appendNode(int depth) {
            int i = nodes;
            facts[OF_COLUMN][i] = NONE;
            facts[OF_CUT][i] = NONE;
            facts[OF_SIDE][i] = NONE;
            facts[OF_LEFT][i] = NONE;
            facts[OF_DEPTH][i] = depth;
            sums[OF_DIFFERENCE][i] = 0;
            nodes = i + 1;
        }

        void keepSums(int i, Sums of, int addend) {
            facts[OF_ROWS][i] = of.rows;
            facts[OF_H][i] = of.h;
            sums[OF_G][i] = of.g;
            sums[OF_VALUE][i] = of.valueWith(addend);
        }

        boolean mayDivide(int i, int deepest) {
            return facts[OF_DEPTH][i] < deepest && nodes + 2 <= MOST_NODES;
        }

        void divide(int i, Split split) {
            facts[OF_COLUMN][i] = split.column;
            facts[OF_CUT][i] = split.cut;
            facts[OF_SIDE][i] = split.side;
            facts[OF_LEFT][i] = nodes;
            sums[OF_DIFFERENCE][i] = split.difference;
            appendNode(facts[OF_DEPTH][i] + 1);
            appendNode(facts[OF_DEPTH][i] + 1);
        }

        /** The node below to which four numbers go; a leaf keeps them. */
        int stepFrom(int i, int[] numbers) {
            int column = facts[OF_COLUMN][i];
            if (column == NONE) {
                return i;
            }
            int cell = numbers[column];
            boolean toRight = cell == NONE ? facts[OF_SIDE][i] == RIGHT : cell > facts[OF_CUT][i];
            return facts[OF_LEFT][i] + (toRight ? 1 : 0);
        }

        int leafOf(int[] numbers) {
            int i = 0;
            for (int depth = 0; depth < MOST_DEPTH; depth++) {
                i = stepFrom(i, numbers);
            }
            return i;
        }
    }

    /**
     * Makes one tree after the other from rows and what is left over of them. Its rows and settings are
     * copies, for the object's may change behind a training.
     */
    private static final class Grower {
        final Table rows = new Table();
        final int[] chosen = new int[SETTINGS];
        final int[][] order = new int[COLUMNS][MOST_ROWS];
        final int[] nodeOf = new int[MOST_ROWS];
        final long[] slopes = new long[MOST_ROWS];
        final Sums whole = new Sums(), missing = new Sums(), below = new Sums();
        final Sums low = new Sums(), high = new Sums(), nothing = new Sums();
        final Split split = new Split();

        /** Sorted rows let one pass meet every cut of a column, the missing ones (NONE, the least) ahead of it. */
        void sortRows() {
            for (int c = 0; c < COLUMNS; c++) {
                for (int i = 0; i < rows.number; i++) {
                    int k = i;
                    while (k > 0 && rows.cells[order[c][k - 1]][c] > rows.cells[i][c]) {
                        order[c][k] = order[c][k - 1];
                        k--;
                    }
                    order[c][k] = i;
                }
            }
        }

        void growTree(Tree tree, int round, long[] f) {
            drawRows(round, f);
            tree.nodes = 0;
            tree.appendNode(0);
            for (int i = 0; i < tree.nodes && i < MOST_NODES; i++) {
                gatherNode(i);
                tree.keepSums(i, whole, chosen[ADDEND]);
                if (tree.mayDivide(i, chosen[DEPTH])) {
                    findSplit(i, round);
                    if (split.column != NONE) {
                        tree.divide(i, split);
                        moveRows(tree, i);
                    }
                }
            }
        }

        boolean hasDrawn(int i) {
            return nodeOf[i] != NONE;
        }

        private void drawRows(int round, long[] f) {
            for (int i = 0; i < rows.number; i++) {
                boolean part = !rows.held[i] && drawn(64 * round + i) < chosen[ROWS_SHARE];
                nodeOf[i] = part ? 0 : NONE;
                slopes[i] = rows.weights[i] * (f[i] - UNITS * rows.aims[i]);
            }
        }

        private void gatherNode(int node) {
            whole.empty();
            for (int i = 0; i < rows.number; i++) {
                if (nodeOf[i] == node) {
                    whole.addRow(slopes[i], rows.weights[i]);
                }
            }
        }

        private void moveRows(Tree tree, int node) {
            for (int i = 0; i < rows.number; i++) {
                if (nodeOf[i] == node) {
                    nodeOf[i] = tree.stepFrom(node, rows.cells[i]);
                }
            }
        }

        private void findSplit(int node, int round) {
            split.forget(chosen[GAIN]);
            for (int c = 0; c < COLUMNS; c++) {
                if (drawn(100000 + 4 * round + c) < chosen[COLUMNS_SHARE]) {
                    tryColumn(node, c);
                }
            }
        }

        private void tryColumn(int node, int column) {
            missing.empty();
            below.empty();
            int last = NONE;
            for (int k = 0; k < rows.number; k++) {
                int i = order[column][k];
                if (nodeOf[i] == node) {
                    int cell = rows.cells[i][column];
                    if (last != NONE && cell > last) {
                        trySplit(column, last, LEFT);
                        // With none missing both sides are alike, and LEFT goes first.
                        if (missing.rows > 0) {
                            trySplit(column, last, RIGHT);
                        }
                    }
                    (cell == NONE ? missing : below).addRow(slopes[i], rows.weights[i]);
                    last = cell;
                }
            }
        }

        /** Splits come in the order in which equal ones go first, so only a greater difference takes over. */
        private void trySplit(int column, int cut, int side) {
            low.becomeSum(below, side == LEFT ? missing : nothing);
            high.becomeRest(whole, low);
            if (low.rows < chosen[LEAST] || high.rows < chosen[LEAST]) {
                return;
            }
            int addend = chosen[ADDEND];
            long difference = low.worthWith(addend) + high.worthWith(addend) - whole.worthWith(addend);
            if (difference > split.difference
                    && keepsSign(chosen[SIGN + column], low.valueWith(addend), high.valueWith(addend))) {
                split.become(column, cut, side, difference);
            }
        }

        private static boolean keepsSign(int sign, long lowValue, long highValue) {
            return sign == 0 || (sign > 0 ? lowValue <= highValue : lowValue >= highValue);
        }

        private int drawn(int a) {
            int x = chosen[SEED] + 1000003 * a;
            x = (x ^ (x >>> 15)) * 0x2c1b3c6d;
            x = (x ^ (x >>> 12)) * 0x297a2d39;
            return x >>> 24;
        }
    }

    /** The last training with its trees, by the rows and settings of then. */
    private static final class Training {
        final Grower grower = new Grower();
        final Table rows = grower.rows;
        final int[] chosen = grower.chosen;
        final Tree[] trees = new Tree[MOST_TREES];
        final long[] f = new long[MOST_ROWS];
        final int[] tookPart = new int[MOST_ROWS];
        final long[][] losses = new long[2][MOST_TREES + 1];
        final long[] tells = new long[MOST_NODES];
        boolean done;
        int made;

        Training() {
            for (int t = 0; t < MOST_TREES; t++) {
                trees[t] = new Tree();
            }
        }

        void run(Table current, int[] settings) {
            rows.copyFrom(current);
            System.arraycopy(settings, 0, chosen, 0, SETTINGS);
            begin();
            int patience = rows.heldRows() > 0 ? chosen[PATIENCE] : 0;
            long least = losses[HELD][0];
            int idle = 0;
            for (int r = 0; r < chosen[ROUNDS] && r < MOST_TREES; r++) {
                grower.growTree(trees[r], r, f);
                addTree(r);
                idle = losses[HELD][made] < least ? 0 : idle + 1;
                least = Math.min(least, losses[HELD][made]);
                if (patience > 0 && idle >= patience) {
                    break;
                }
            }
        }

        private void begin() {
            done = true;
            made = 0;
            for (int i = 0; i < rows.number; i++) {
                f[i] = baseUnits();
                tookPart[i] = 0;
            }
            keepLosses();
            grower.sortRows();
        }

        private void addTree(int r) {
            for (int i = 0; i < rows.number; i++) {
                f[i] += addOf(trees[r], rows.cells[i]);
                if (grower.hasDrawn(i)) {
                    tookPart[i] |= 1 << r;
                }
            }
            made = r + 1;
            keepLosses();
        }

        private void keepLosses() {
            losses[FITTED][made] = 0;
            losses[HELD][made] = 0;
            for (int i = 0; i < rows.number; i++) {
                long off = f[i] - UNITS * rows.aims[i];
                losses[rows.held[i] ? HELD : FITTED][made] += rows.weights[i] * off * off;
            }
        }

        int treesOfLeastLoss() {
            if (rows.heldRows() == 0) {
                return made;
            }
            int found = 0;
            for (int n = 1; n <= made; n++) {
                if (losses[HELD][n] < losses[HELD][found]) {
                    found = n;
                }
            }
            return found;
        }

        long answerBy(int n, int[] numbers) {
            long units = baseUnits();
            for (int t = 0; t < n && t < made; t++) {
                units += addOf(trees[t], numbers);
            }
            return units;
        }

        long leftOut(int i) {
            long units = baseUnits();
            for (int t = 0; t < made; t++) {
                if ((tookPart[i] >> t & 1) == 0) {
                    units += addOf(trees[t], rows.cells[i]);
                }
            }
            return units;
        }

        long gainBy(int column) {
            long found = 0;
            for (int t = 0; t < made; t++) {
                for (int i = 0; i < trees[t].nodes; i++) {
                    if (trees[t].facts[OF_COLUMN][i] == column) {
                        found += trees[t].sums[OF_DIFFERENCE][i];
                    }
                }
            }
            return found;
        }

        long tellAll(int mask, int[] numbers) {
            long units = baseUnits();
            for (int t = 0; t < made; t++) {
                units += tellTree(trees[t], mask, numbers);
            }
            return units;
        }

        long fairShare(int column, int[] numbers) {
            int own = 1 << column;
            long found = 0;
            for (int others = 0; others < MASKS; others++) {
                if ((others & own) == 0) {
                    int known = Integer.bitCount(others);
                    int times = known == 0 || known == COLUMNS - 1 ? 6 : 2;
                    found += times * (tellAll(others | own, numbers) - tellAll(others, numbers));
                }
            }
            return found;
        }

        /** From the last node on, for the nodes below one have greater numbers and must have told before it. */
        private long tellTree(Tree tree, int mask, int[] numbers) {
            for (int i = tree.nodes - 1; i >= 0; i--) {
                int column = tree.facts[OF_COLUMN][i];
                if (column == NONE) {
                    tells[i] = shrunk(tree.sums[OF_VALUE][i]);
                } else if ((mask >> column & 1) == 1) {
                    tells[i] = tells[tree.stepFrom(i, numbers)];
                } else {
                    tells[i] = tellBoth(tree, i);
                }
            }
            return tells[0];
        }

        private long tellBoth(Tree tree, int i) {
            int[] counts = tree.facts[OF_ROWS];
            int left = tree.facts[OF_LEFT][i];
            long both = tells[left] * counts[left] + tells[left + 1] * counts[left + 1];
            long by = counts[i];
            return by == 0 ? 0 : Math.floorDiv(both, by);
        }

        private long addOf(Tree tree, int[] numbers) {
            return shrunk(tree.sums[OF_VALUE][tree.leafOf(numbers)]);
        }

        private long shrunk(long value) {
            return value * chosen[SHRINK] / UNITS;
        }

        private long baseUnits() {
            return (long) UNITS * chosen[BASE];
        }
    }
}
