/** The boundary cases of training, sentence by sentence: promise 6 with the terms that it leans on. */
public final class BoundaryTrainingTests {
    private static final int NONE = -1, BAD = -2;
    private static final int MIN = Integer.MIN_VALUE, MAX = Integer.MAX_VALUE;
    private static final int DEPTH = 0, LEAST = 1, ADDEND = 2, SHRINK = 3, ROUNDS = 4, GAIN = 5;
    private static final int ROWS_SHARE = 6, COLUMNS_SHARE = 7, PATIENCE = 8, BASE = 9, SEED = 10, SIGN = 11;

    private static final Sentences doc = new Sentences();

    public static void main(String[] args) {
        refusedOfNoRows();
        refusedOfHeldRows();
        refusedLeavesTrees();
        treesBeforeGo();
        noRounds();
        mostRounds();
        rowsOfThen();
        settingsOfThen();
        fAtFirst();

        drawnRows();
        drawnRowsOfLastRound();
        drawnColumns();
        drawnColumnsOfLastRound();
        rowsShareAtItsEnds();
        columnsShareAtItsEnds();
        heldRowsTakeNoPart();

        noRowsInNode();
        noColumnsForNode();
        valueTowardsZero();
        worthTowardsZero();

        depths();
        noSplitMayBe();
        cutOfTheNode();
        cutHasAGreaterOne();
        missingIsNoCut();
        cutGoesLeft();
        leastRows();
        leastCountsMissing();
        aboveGain();
        noGain();
        signs();
        signsOfEqualValues();
        signLeavesAnotherCut();
        greatestDifferenceFirst();
        leastColumnNext();
        leastCutNext();
        leftLast();
        numbersAsTheyCome();

        heldAndUndrawnGrow();
        shrinkTowardsZero();
        patienceOfNone();
        patienceWithoutHeld();
        patienceOfEqualLoss();
        patienceAgainstTheLeast();
        patienceOneAfterTheOther();
        patienceEndsBehindThatRound();
        doc.end(6);
    }

    /** DEPTH 1, no ADDEND, one ROUND: easy to work out by hand. */
    private static BoostForests stump() {
        BoostForests x = new BoostForests();
        x.set(DEPTH, 1);
        x.set(ADDEND, 0);
        x.set(ROUNDS, 1);
        return x;
    }

    /** A stump over rows of WEIGHT 1 with numbers in COLUMN 0, and all alike in the others. */
    private static BoostForests stumpOf(int[] first, int[] aims) {
        BoostForests x = stump();
        for (int i = 0; i < aims.length; i++) {
            x.row(first[i], 7, 7, 7, aims[i], 1);
        }
        return x;
    }

    private static BoostForests trainedPair() {
        BoostForests x = stumpOf(new int[] {0, 1}, new int[] {0, 10});
        x.train();
        return x;
    }

    private static void dueSplit(String what, BoostForests x, int column, int cut, int side) {
        x.train();
        doc.due(what + ": column", x.node(0, 0, 0), column);
        doc.due(what + ": cut", x.node(0, 0, 1), cut);
        doc.due(what + ": side", x.node(0, 0, 2), side);
        doc.due(what + ": size", x.size(0), column == NONE ? 1 : 3);
    }

    private static void dueLeaf(String what, BoostForests x) {
        dueSplit(what, x, NONE, NONE, NONE);
    }

    private static void refusedOfNoRows() {
        doc.says(6, "BAD: no ROWS that are not HELD");
        BoostForests x = new BoostForests();
        doc.due("train() of none", x.train(), BAD);
        doc.due("best(): a refused one is no TRAINING", x.best(), BAD);
        doc.due("loss(0, 0)", x.loss(0, 0), BAD);
        doc.due("count(3)", x.count(3), 0);
        x.row(0, 0, 0, 0, 0, 1);
        doc.due("train() of one", x.train(), 4);
        x.clear();
        doc.due("train() behind clear()", x.train(), BAD);
    }

    private static void refusedOfHeldRows() {
        doc.says(6, "no ROWS that are not HELD");
        BoostForests x = new BoostForests();
        for (int i = 0; i < 40; i++) {
            x.row(i % 32, 0, 0, 0, 0, 1);
            x.hold(i, 1);
        }
        doc.due("train() of 40 held ones", x.train(), BAD);
        x.hold(39, 0);
        doc.due("train() of one not held", x.train(), 4);
        doc.due("its rows", x.node(0, 0, 4), 1);
        x.hold(39, 1);
        x.hold(0, 0);
        doc.due("train() of the first one not held", x.train(), 4);
    }

    private static void refusedLeavesTrees() {
        doc.says(6, "(TREES stay)");
        BoostForests x = trainedPair();
        x.hold(0, 1);
        x.hold(1, 1);
        x.set(BASE, 50);
        x.set(SHRINK, 1);
        x.set(ROUNDS, 0);
        doc.due("train() of held ones", x.train(), BAD);
        doc.due("count(2)", x.count(2), 1);
        doc.due("count(3)", x.count(3), 2);
        doc.due("size(0)", x.size(0), 3);
        doc.due("answer(1, 1, ..)", x.answer(1, 1, 0, 0, 0), 2560);
        doc.due("told(0, ..)", x.told(0, 1, 0, 0, 0), 1280);
        doc.due("loss(0, 0)", x.loss(0, 0), 6553600);
        doc.due("loss(0, 1)", x.loss(0, 1), 0);
        doc.due("took(1)", x.took(1), 1);
        doc.due("without(1)", x.without(1), 0);
        doc.due("best()", x.best(), 1);
        doc.due("gain(0)", x.gain(0), 3276800);
    }

    private static void treesBeforeGo() {
        doc.says(6, "TREES before go: how many TREES");
        BoostForests x = new BoostForests();
        x.set(DEPTH, 4);
        x.set(ADDEND, 0);
        x.set(ROUNDS, 12);
        x.set(SHRINK, 100);
        for (int i = 0; i < 32; i++) {
            x.row(i, 7, 7, 7, 3 * i, 1);
        }
        doc.due("train() of 12", x.train(), 12);
        doc.due("size(0) of 12", x.size(0), 31);
        x.set(DEPTH, 1);
        x.set(ROUNDS, 1);
        doc.due("train() of one", x.train(), 1);
        doc.due("size(0)", x.size(0), 3);
        doc.due("size(1)", x.size(1), BAD);
        doc.due("node(0, 3, 0)", x.node(0, 3, 0), BAD);
        doc.due("node(1, 0, 0)", x.node(1, 0, 0), BAD);
        doc.due("sum(0, 3, 0)", x.sum(0, 3, 0), 0);
        doc.due("sum(1, 0, 0)", x.sum(1, 0, 0), 0);
        doc.due("leaf(1, ..)", x.leaf(1, 0, 0, 0, 0), BAD);
        doc.due("answer(2, ..)", x.answer(2, 0, 0, 0, 0), 0);
        doc.due("loss(2, 0)", x.loss(2, 0), BAD);
        doc.due("took(0)", x.took(0), 1);
        doc.due("gain(0)", x.gain(0), x.sum(0, 0, 2));
        doc.due("best()", x.best(), 1);
        // A leaf in the place of a node that was split: nothing of the split is left.
        doc.due("node(0, 1, 0)", x.node(0, 1, 0), NONE);
        doc.due("node(0, 1, 1)", x.node(0, 1, 1), NONE);
        doc.due("node(0, 1, 2)", x.node(0, 1, 2), NONE);
        doc.due("node(0, 1, 3)", x.node(0, 1, 3), NONE);
        doc.due("sum(0, 1, 2)", x.sum(0, 1, 2), 0);
    }

    private static void noRounds() {
        doc.says(6, "4 ROUNDS (0 .. 12; 4)");
        BoostForests x = trainedPair();
        x.set(ROUNDS, 0);
        x.set(BASE, -3);
        x.hold(0, 1);
        doc.due("train()", x.train(), 0);
        doc.due("count(2)", x.count(2), 0);
        doc.due("size(0)", x.size(0), BAD);
        doc.due("best()", x.best(), 0);
        doc.due("answer(0, ..)", x.answer(0, 1, 1, 1, 1), -768);
        doc.due("told(15, ..)", x.told(15, 1, 1, 1, 1), -768);
        doc.due("share(0, ..)", x.share(0, 1, 1, 1, 1), 0);
        doc.due("without(0)", x.without(0), -768);
        doc.due("took(1)", x.took(1), 0);
        doc.due("gain(0)", x.gain(0), 0);
        doc.due("loss(0, 0)", x.loss(0, 0), 3328L * 3328);
        doc.due("loss(0, 1)", x.loss(0, 1), 768L * 768);
        doc.due("loss(1, 0)", x.loss(1, 0), BAD);
    }

    private static void mostRounds() {
        doc.says(6, "ROUND r makes TREE r.");
        BoostForests x = stumpOf(new int[] {0}, new int[] {100});
        x.set(ROUNDS, 12);
        x.set(ADDEND, 1);
        doc.due("train()", x.train(), 12);
        // Of one row of WEIGHT 1 by ADDEND 1 each TREE takes half of what is left over, cut towards 0.
        long over = 25600;
        for (int r = 0; r < 12; r++) {
            doc.due("G of TREE " + r, x.sum(r, 0, 0), -over);
            doc.due("VALUE of TREE " + r, x.sum(r, 0, 1), over / 2);
            over -= over / 2;
        }
        doc.due("size(12)", x.size(12), BAD);
        doc.due("took(0)", x.took(0), 12);
    }

    private static void rowsOfThen() {
        doc.says(6, "(all that is told of TREES, answers, LOSS is by the ROWS and SETTINGS of then)");
        BoostForests x = trainedPair();
        x.hold(0, 1);
        doc.due("loss(1, 1) beside hold()", x.loss(0, 1), 0);
        doc.due("took(0) beside hold()", x.took(0), 1);
        doc.due("without(0) beside hold()", x.without(0), 0);
        doc.due("best() beside hold()", x.best(), 1);
        x.row(5, 5, 5, 5, 50, 5);
        doc.due("took(2) of a new row", x.took(2), BAD);
        doc.due("without(2) of a new row", x.without(2), 0);
        doc.due("loss(0, 0) beside a new row", x.loss(0, 0), 6553600);
        x.clear();
        x.row(5, 5, 5, 5, 50, 5);
        doc.due("loss(0, 0) by other rows", x.loss(0, 0), 6553600);
        doc.due("took(1) by other rows", x.took(1), 1);
    }

    private static void settingsOfThen() {
        doc.says(6, "by the ROWS and SETTINGS of then");
        BoostForests x = trainedPair();
        int[] others = {4, 20, 1000, 1, 12, 1000000, 1, 1, 12, 100, 12345, -1, -1, -1, -1};
        for (int s = 0; s < others.length; s++) {
            x.set(s, others[s]);
        }
        doc.due("answer(0, ..)", x.answer(0, 1, 1, 1, 1), 0);
        doc.due("answer(1, ..)", x.answer(1, 1, 1, 1, 1), 2560);
        doc.due("told(0, ..)", x.told(0, 1, 1, 1, 1), 1280);
        doc.due("share(0, ..)", x.share(0, 1, 1, 1, 1), 24 * 1280);
        doc.due("without(0)", x.without(0), 0);
        doc.due("loss(1, 0)", x.loss(1, 0), 0);
        doc.due("sum(0, 0, 1)", x.sum(0, 0, 1), 1280);
        doc.due("took(0)", x.took(0), 1);
    }

    private static void fAtFirst() {
        doc.says(6, "F of a ROW is 256 BASE at first.");
        for (int base : new int[] {-100, 0, 100}) {
            BoostForests x = stumpOf(new int[] {0, 0}, new int[] {100, -100});
            x.set(BASE, base);
            x.hold(1, 1);
            x.train();
            long off = 256L * (base - 100), heldOff = 256L * (base + 100);
            doc.due("G by BASE " + base, x.sum(0, 0, 0), off);
            doc.due("loss(0, 0) by BASE " + base, x.loss(0, 0), off * off);
            doc.due("loss(0, 1) by BASE " + base, x.loss(0, 1), heldOff * heldOff);
            doc.due("answer(0, ..) by BASE " + base, x.answer(0, 0, 0, 0, 0), 256L * base);
            doc.due("answer(1, ..) by BASE " + base, x.answer(1, 0, 0, 0, 0), 25600);
        }
    }

    /** Of one row that may take part in the last of some ROUNDS: does it, by such a share? */
    private static int rowsOfLastTree(int seed, int number, int rounds, int share) {
        BoostForests x = stump();
        x.set(ROUNDS, rounds);
        x.set(SEED, seed);
        x.set(ROWS_SHARE, share);
        for (int i = 0; i <= number; i++) {
            x.row(0, 0, 0, 0, 1, 1);
            x.hold(i, 1);
        }
        x.hold(number, 0);
        x.train();
        return x.node(rounds - 1, 0, 4);
    }

    private static void dueDrawnRow(int seed, int number, int round, int drawn) {
        String what = "SEED " + seed + ", row " + number + ", ROUND " + round + ", DRAWN " + drawn;
        if (drawn > 0) {
            doc.due(what + ", by a share of as much", rowsOfLastTree(seed, number, round + 1, drawn), 0);
        }
        doc.due(what + ", by a share of one more", rowsOfLastTree(seed, number, round + 1, drawn + 1), 1);
    }

    private static void drawnRows() {
        doc.says(6, "its highest 8 bits, 0 .. 255 (ints of 32 bits, running over");
        // Worked out with whole numbers of any size, by the remainder of 2 to the power of 32.
        int[][] drawn = {{0, 0}, {1, 237}, {-1, 37}, {77, 245}, {MAX, 146}, {MIN, 18}, {-2557, 0}, {-2968, 255}};
        for (int[] d : drawn) {
            dueDrawnRow(d[0], 0, 0, d[1]);
        }
        int[][] drawnOfLast = {{0, 146}, {1, 236}, {-1, 181}, {77, 93}, {MAX, 11}, {MIN, 68}};
        for (int[] d : drawnOfLast) {
            dueDrawnRow(d[0], 39, 0, d[1]);
        }
    }

    private static void drawnRowsOfLastRound() {
        doc.says(6, "DRAWN(64 r + its number) is below ROWS' SHARE");
        int[][] drawn = {{0, 203}, {1, 197}, {-1, 130}, {77, 63}, {MAX, 155}, {MIN, 242}};
        for (int[] d : drawn) {
            dueDrawnRow(d[0], 39, 11, d[1]);
        }
        int[][] drawnOfNext = {{0, 183}, {1, 240}, {-1, 85}, {77, 127}, {MAX, 206}, {MIN, 223}};
        for (int[] d : drawnOfNext) {
            dueDrawnRow(d[0], 1, 1, d[1]);
        }
    }

    /** Two rows that only this COLUMN tells apart: is the ROOT of the last of some ROUNDS split by it? */
    private static int columnOfLastTree(int seed, int column, int rounds, int share) {
        BoostForests x = stump();
        x.set(SHRINK, 1);
        x.set(ROUNDS, rounds);
        x.set(SEED, seed);
        x.set(COLUMNS_SHARE, share);
        int[] cells = {5, 5, 5, 5};
        x.row(5, 5, 5, 5, -100, 1);
        cells[column] = 6;
        x.row(cells[0], cells[1], cells[2], cells[3], 100, 1);
        x.train();
        return x.node(rounds - 1, 0, 0);
    }

    private static void dueDrawnColumn(int seed, int column, int round, int drawn) {
        String what = "SEED " + seed + ", column " + column + ", ROUND " + round + ", DRAWN " + drawn;
        if (drawn > 0) {
            doc.due(what + ", by a share of as much", columnOfLastTree(seed, column, round + 1, drawn), NONE);
        }
        doc.due(what + ", by a share of one more", columnOfLastTree(seed, column, round + 1, drawn + 1), column);
    }

    private static void drawnColumns() {
        doc.says(6, "a COLUMN c if DRAWN(100000 + 4 r + c) is below COLUMNS' SHARE");
        int[][] drawn = {{0, 66, 141, 27, 218}, {1, 190, 95, 183, 48}, {-1, 66, 147, 13, 148},
            {MAX, 68, 226, 156, 10}, {MIN, 16, 253, 57, 224}};
        for (int[] d : drawn) {
            for (int c = 0; c < 4; c++) {
                dueDrawnColumn(d[0], c, 0, d[1 + c]);
            }
        }
    }

    private static void drawnColumnsOfLastRound() {
        doc.says(6, "DRAWN(100000 + 4 r + c)");
        int[][] drawn = {{0, 22, 237, 98, 70}, {1, 195, 121, 223, 164}, {77, 46, 73, 80, 82},
            {MAX, 163, 158, 63, 68}, {MIN, 192, 231, 17, 238}};
        for (int[] d : drawn) {
            for (int c = 0; c < 4; c++) {
                dueDrawnColumn(d[0], c, 11, d[1 + c]);
            }
        }
    }

    private static void rowsShareAtItsEnds() {
        doc.says(6, "6 ROWS' SHARE (1 .. 256; 256)");
        doc.due("DRAWN 0 by a share of 1", rowsOfLastTree(0, 0, 1, 1), 1);
        doc.due("DRAWN 255 by a share of 255", rowsOfLastTree(-2968, 0, 1, 255), 0);
        doc.due("DRAWN 255 by a share of 256", rowsOfLastTree(-2968, 0, 1, 256), 1);
    }

    private static void columnsShareAtItsEnds() {
        doc.says(6, "7 COLUMNS' SHARE (1 .. 256; 256)");
        doc.due("DRAWN 0 by a share of 1", columnOfLastTree(-2777, 0, 1, 1), 0);
        doc.due("DRAWN 255 by a share of 255", columnOfLastTree(-2874, 0, 1, 255), NONE);
        doc.due("DRAWN 255 by a share of 256", columnOfLastTree(-2874, 0, 1, 256), 0);
    }

    private static void heldRowsTakeNoPart() {
        doc.says(6, "A ROW takes part if it is not HELD");
        BoostForests x = stumpOf(new int[] {0, 1, 2}, new int[] {0, 10, 90});
        x.hold(2, 1);
        dueSplit("of two rows and a held one", x, 0, 0, 0);
        doc.due("rows", x.node(0, 0, 4), 2);
        doc.due("H", x.node(0, 0, 5), 2);
        doc.due("G", x.sum(0, 0, 0), -2560);
        doc.due("took of the held one", x.took(2), 0);
    }

    private static void noRowsInNode() {
        doc.says(6, "(Of no ROWS both are 0.");
        BoostForests x = stump();
        x.set(ROUNDS, 12);
        x.set(ROWS_SHARE, 1);
        x.set(SEED, 77);
        x.set(BASE, 3);
        x.row(0, 0, 0, 0, 10, 1);
        // H and ADDEND are 0: a division that may not be.
        doc.due("train() of TREES without rows", x.train(), 12);
        for (int t = 0; t < 12; t++) {
            doc.due("size(" + t + ")", x.size(t), 1);
            doc.due("rows of TREE " + t, x.node(t, 0, 4), 0);
            doc.due("H of TREE " + t, x.node(t, 0, 5), 0);
            doc.due("G of TREE " + t, x.sum(t, 0, 0), 0);
            doc.due("VALUE of TREE " + t, x.sum(t, 0, 1), 0);
        }
        doc.due("answer(12, ..)", x.answer(12, 0, 0, 0, 0), 768);
        doc.due("told(0, ..)", x.told(0, 0, 0, 0, 0), 768);
        doc.due("share(0, ..)", x.share(0, 0, 0, 0, 0), 0);
        doc.due("without(0)", x.without(0), 768);
        doc.due("took(0)", x.took(0), 0);
        doc.due("loss(12, 0)", x.loss(12, 0), 1792L * 1792);
    }

    private static void noColumnsForNode() {
        doc.says(6, "a COLUMN that takes part");
        BoostForests x = stump();
        x.set(COLUMNS_SHARE, 1);
        x.row(0, 0, 0, 0, 0, 1);
        x.row(1, 1, 1, 1, 10, 1);
        dueLeaf("no column drawn", x);
        doc.due("VALUE of both rows", x.sum(0, 0, 1), 1280);
        // DRAWN of the columns is 66, 141, 27, 218 by SEED 0 in ROUND 0.
        x.set(COLUMNS_SHARE, 28);
        dueSplit("column 2 alone drawn", x, 2, 0, 0);
        x.set(COLUMNS_SHARE, 67);
        dueSplit("columns 0 and 2 drawn", x, 0, 0, 0);
    }

    private static long rootValue(int aim, int weight, int addend) {
        BoostForests x = stump();
        x.set(ADDEND, addend);
        x.row(0, 0, 0, 0, aim, weight);
        x.train();
        return x.sum(0, 0, 1);
    }

    private static void valueTowardsZero() {
        doc.says(6, "Its VALUE: - G by (H + ADDEND), cut towards 0.");
        doc.due("256 by 1", rootValue(1, 1, 0), 256);
        doc.due("256 by 3", rootValue(1, 1, 2), 85);
        doc.due("-256 by 3", rootValue(-1, 1, 2), -85);
        doc.due("256 by 257", rootValue(1, 1, 256), 0);
        doc.due("-256 by 257", rootValue(-1, 1, 256), 0);
        doc.due("-256 by 256", rootValue(-1, 1, 255), -1);
        doc.due("204800 by 1008", rootValue(100, 8, 1000), 203);
        doc.due("-204800 by 1008", rootValue(-100, 8, 1000), -203);
        doc.due("0 by 1", rootValue(0, 1, 0), 0);
    }

    private static void worthTowardsZero() {
        doc.says(6, "WORTH: G G by (H + ADDEND), cut towards 0.");
        BoostForests x = stumpOf(new int[] {0, 1}, new int[] {0, 1});
        x.set(ADDEND, 1);
        x.train();
        // 65536 by 2 less 65536 by 3, each cut by itself: 32768 less 21845.
        doc.due("difference", x.sum(0, 0, 2), 10923);
        x.set(ADDEND, 1000);
        x.set(BASE, 0);
        x.train();
        // 65536 by 1001 less 65536 by 1002: 65 less 65, so that no SPLIT may be.
        doc.due("size", x.size(0), 1);
    }

    private static void depths() {
        doc.says(6, "A NODE above DEPTH (the ROOT is at 0) is SPLIT");
        for (int depth = 1; depth <= 4; depth++) {
            BoostForests x = stump();
            x.set(DEPTH, depth);
            for (int i = 0; i < 32; i++) {
                x.row(i, 7, 7, 7, 3 * i, 1);
            }
            x.train();
            int nodes = (2 << depth) - 1;
            doc.due("size by DEPTH " + depth, x.size(0), nodes);
            doc.due("depth of the ROOT", x.node(0, 0, 6), 0);
            doc.due("depth of the last node by DEPTH " + depth, x.node(0, nodes - 1, 6), depth);
            doc.due("its rows", x.node(0, nodes - 1, 4), 32 >> depth);
            doc.due("a leaf", x.node(0, nodes - 1, 0), NONE);
            doc.due("the node above it is split", x.node(0, nodes / 2 - 1, 0), 0);
        }
    }

    private static void noSplitMayBe() {
        doc.says(6, "is SPLIT, if some SPLIT may be");
        dueLeaf("one row", stumpOf(new int[] {3}, new int[] {50}));
        dueLeaf("rows that no column tells apart", stumpOf(new int[] {3, 3}, new int[] {-50, 50}));
        dueLeaf("rows that are all missing", stumpOf(new int[] {NONE, NONE}, new int[] {-50, 50}));
    }

    private static void cutOfTheNode() {
        doc.says(6, "a CUT (a number that some ROW of the NODE has there");
        BoostForests x = stumpOf(new int[] {3, 20, 10}, new int[] {0, 10, 0});
        x.hold(2, 1);
        // 10, which a held row has, divides the others as 3 does, and is no CUT.
        dueSplit("beside a held row", x, 0, 3, 0);
        dueSplit("the least number of all", stumpOf(new int[] {0, 31}, new int[] {0, 10}), 0, 0, 0);
        dueSplit("the greatest CUT of all", stumpOf(new int[] {0, 30, 31}, new int[] {0, 0, 10}), 0, 30, 0);
        BoostForests y = stumpOf(new int[] {0, 10, 20, 30}, new int[] {0, 1, 90, 95});
        y.set(DEPTH, 2);
        y.train();
        doc.due("CUT of the ROOT", y.node(0, 0, 1), 10);
        doc.due("CUT of the LEFT node", y.node(0, 1, 1), 0);
        doc.due("CUT of the RIGHT node", y.node(0, 2, 1), 20);
    }

    private static void cutHasAGreaterOne() {
        doc.says(6, "some other one has a greater one)");
        // By CUT 5 with the missing at the RIGHT both sides would have rows, but none has more than 5.
        dueLeaf("one number and a missing one", stumpOf(new int[] {5, 5, NONE}, new int[] {0, 0, 10}));
        dueLeaf("31 and a missing one", stumpOf(new int[] {31, NONE}, new int[] {0, 10}));
        dueSplit("4 and 5 and a missing one", stumpOf(new int[] {4, 5, NONE}, new int[] {0, 1, 10}), 0, 4, 1);
    }

    private static void missingIsNoCut() {
        doc.says(6, "a SIDE for those that are missing (LEFT or RIGHT)");
        // A CUT of NONE would put the missing at the LEFT and all numbers at the RIGHT.
        dueLeaf("a missing one and one number", stumpOf(new int[] {NONE, 0}, new int[] {0, 10}));
        dueSplit("missing at the LEFT", stumpOf(new int[] {0, 1, NONE}, new int[] {0, 10, 0}), 0, 0, 0);
        BoostForests x = stumpOf(new int[] {0, 1, NONE}, new int[] {0, 10, 10});
        dueSplit("missing at the RIGHT", x, 0, 0, 1);
        doc.due("rows at the LEFT", x.node(0, 1, 4), 1);
        doc.due("rows at the RIGHT", x.node(0, 2, 4), 2);
        doc.due("leaf of a missing one", x.leaf(0, NONE, 0, 0, 0), 2);
    }

    private static void cutGoesLeft() {
        doc.says(6, "ROWS with CUT or less go LEFT, with more RIGHT");
        BoostForests x = stumpOf(new int[] {2, 3, 3, 4}, new int[] {0, 0, 0, 10});
        dueSplit("of 2, 3, 3, 4", x, 0, 3, 0);
        doc.due("rows at the LEFT", x.node(0, 1, 4), 3);
        doc.due("rows at the RIGHT", x.node(0, 2, 4), 1);
        doc.due("leaf of the CUT", x.leaf(0, 3, 0, 0, 0), 1);
        doc.due("leaf of one less", x.leaf(0, 2, 0, 0, 0), 1);
        doc.due("leaf of one more", x.leaf(0, 4, 0, 0, 0), 2);
        doc.due("VALUE at the RIGHT", x.sum(0, 2, 1), 2560);
    }

    /** So many rows of 0 (AIM 0), of 1 (AIM 10), and missing ones (AIM 0), by LEAST. */
    private static BoostForests sides(int least, int zeros, int ones, int missing) {
        BoostForests x = stump();
        x.set(LEAST, least);
        for (int i = 0; i < zeros + ones + missing; i++) {
            boolean one = i >= zeros && i < zeros + ones;
            x.row(i < zeros ? 0 : one ? 1 : NONE, 7, 7, 7, one ? 10 : 0, 1);
        }
        return x;
    }

    private static void leastRows() {
        doc.says(6, "at each side are LEAST rows or more");
        for (int least = 1; least <= 20; least++) {
            dueSplit("LEAST " + least + " of as many", sides(least, least, least, 0), 0, 0, 0);
        }
        for (int least = 2; least <= 20; least++) {
            dueLeaf("LEAST " + least + ", one less at the LEFT", sides(least, least - 1, least, 0));
            dueLeaf("LEAST " + least + ", one less at the RIGHT", sides(least, least, least - 1, 0));
        }
        // WEIGHT is no number of rows.
        BoostForests x = stump();
        x.set(LEAST, 2);
        x.row(0, 7, 7, 7, 0, 8);
        x.row(1, 7, 7, 7, 10, 8);
        dueLeaf("heavy rows", x);
    }

    private static void leastCountsMissing() {
        doc.says(6, "at each side are LEAST rows or more");
        dueSplit("the missing one makes the RIGHT side whole", sides(20, 20, 19, 1), 0, 0, 1);
        dueSplit("the missing one makes the LEFT side whole", sides(20, 19, 20, 1), 0, 0, 0);
        dueLeaf("one missing is too few", sides(20, 19, 19, 1));
    }

    private static void aboveGain() {
        doc.says(6, "the WORTHS of both sides less that of the NODE are above GAIN");
        // WORTHS: 0 and 65536 of the sides, 32768 of the ROOT.
        BoostForests x = stumpOf(new int[] {0, 1}, new int[] {0, 1});
        x.set(GAIN, 32768);
        dueLeaf("as much as GAIN", x);
        x.set(GAIN, 32767);
        dueSplit("one above GAIN", x, 0, 0, 0);
        doc.due("difference", x.sum(0, 0, 2), 32768);
        x.set(GAIN, 1000000);
        dueLeaf("far below the greatest GAIN", x);
        BoostForests y = stumpOf(new int[] {0, 1}, new int[] {0, 6});
        y.set(GAIN, 1000000);
        dueSplit("above the greatest GAIN", y, 0, 0, 0);
        doc.due("difference", y.sum(0, 0, 2), 1179648);
    }

    private static void noGain() {
        doc.says(6, "5 GAIN (0 .. 1000000; 0)");
        BoostForests x = stumpOf(new int[] {0, 1}, new int[] {10, 10});
        dueLeaf("a difference of 0", x);
        x.set(ADDEND, 1);
        dueLeaf("a difference below 0", x);
    }

    private static void signs() {
        doc.says(6, "by SIGN 1 the LEFT one's VALUE is not above the RIGHT one's, by -1 not below");
        for (int column = 0; column < 4; column++) {
            for (int sign = -1; sign <= 1; sign++) {
                BoostForests x = stump();
                int[] cells = {5, 5, 5, 5};
                x.row(5, 5, 5, 5, 0, 1);
                cells[column] = 6;
                x.row(cells[0], cells[1], cells[2], cells[3], 10, 1);
                x.set(SIGN + column, sign);
                x.set(SIGN + (column + 1) % 4, -1);
                String what = "SIGN " + sign + " of column " + column;
                dueSplit(what + ", a rise", x, sign < 0 ? NONE : column, sign < 0 ? NONE : 5, sign < 0 ? NONE : 0);
                x.clear();
                x.row(5, 5, 5, 5, 10, 1);
                x.row(cells[0], cells[1], cells[2], cells[3], 0, 1);
                x.set(SIGN + (column + 1) % 4, 1);
                dueSplit(what + ", a fall", x, sign > 0 ? NONE : column, sign > 0 ? NONE : 5, sign > 0 ? NONE : 0);
            }
        }
    }

    private static void signsOfEqualValues() {
        doc.says(6, "is not above the RIGHT one's");
        // VALUES 0 by 308 and 256 by 301, both cut to 0; WORTHS 0 and 217, of the ROOT 212.
        for (int sign = -1; sign <= 1; sign++) {
            BoostForests x = stump();
            x.set(ADDEND, 300);
            x.set(SIGN, sign);
            x.row(0, 7, 7, 7, 0, 8);
            x.row(1, 7, 7, 7, 1, 1);
            dueSplit("equal VALUES by SIGN " + sign, x, 0, 0, 0);
            doc.due("VALUE at the LEFT", x.sum(0, 1, 1), 0);
            doc.due("VALUE at the RIGHT", x.sum(0, 2, 1), 0);
        }
    }

    private static void signLeavesAnotherCut() {
        doc.says(6, "by SIGN 1 the LEFT one's VALUE is not above the RIGHT one's");
        // CUT 0 falls from 50 to 10, CUT 1 from 25 to 15, CUT 2 rises from 16 to 30.
        BoostForests x = stumpOf(new int[] {0, 1, 2, 3}, new int[] {50, 0, 0, 30});
        dueSplit("SIGN 0", x, 0, 0, 0);
        x.set(SIGN, -1);
        dueSplit("SIGN -1", x, 0, 0, 0);
        x.set(SIGN, 1);
        dueSplit("SIGN 1", x, 0, 2, 0);
    }

    private static void greatestDifferenceFirst() {
        doc.says(6, "Of several that one is taken with the greatest difference of WORTHS");
        BoostForests x = stump();
        x.row(0, 0, 0, 0, 0, 1);
        x.row(0, 1, 1, 0, 10, 1);
        x.row(1, 1, 0, 1, 30, 1);
        x.row(1, 1, 0, 1, 31, 1);
        dueSplit("column 0 and 3 before 1 and 2", x, 0, 0, 0);
        BoostForests y = stump();
        y.row(0, 0, 0, 9, 0, 1);
        y.row(1, 0, 0, 9, 0, 1);
        y.row(0, 0, 0, 10, 10, 1);
        y.row(1, 0, 0, 10, 11, 1);
        dueSplit("the last column", y, 3, 9, 0);
        dueSplit("the last CUT", stumpOf(new int[] {0, 1, 2, 3}, new int[] {0, 1, 2, 90}), 0, 2, 0);
    }

    private static void leastColumnNext() {
        doc.says(6, "then the least COLUMN");
        for (int first = 0; first < 4; first++) {
            BoostForests x = stump();
            int[] low = {9, 9, 9, 9}, high = {9, 9, 9, 9};
            for (int c = first; c < 4; c++) {
                // Lower columns have greater CUTS: the column goes before the CUT.
                low[c] = 20 - c;
                high[c] = 30 - c;
            }
            x.row(low[0], low[1], low[2], low[3], 0, 1);
            x.row(high[0], high[1], high[2], high[3], 10, 1);
            dueSplit("columns alike from " + first, x, first, 20 - first, 0);
        }
    }

    private static void leastCutNext() {
        doc.says(6, "then the least CUT");
        dueSplit("CUTS 0 and 1 alike", stumpOf(new int[] {0, 1, 2}, new int[] {0, 10, 0}), 0, 0, 0);
        dueSplit("CUTS 4 and 9 alike", stumpOf(new int[] {31, 9, 4}, new int[] {0, 10, 0}), 0, 4, 0);
        // {0 | 1, 2, missing} and {0, 1, missing | 2} are alike: the CUT goes before the side.
        BoostForests x = stumpOf(new int[] {0, 1, 2, NONE}, new int[] {0, 10, 0, 10});
        dueSplit("CUT 0 RIGHT and CUT 1 LEFT alike", x, 0, 0, 1);
    }

    private static void leftLast() {
        doc.says(6, "then LEFT.");
        dueSplit("a missing one in the middle", stumpOf(new int[] {0, 1, NONE}, new int[] {0, 10, 5}), 0, 0, 0);
        BoostForests x = stumpOf(new int[] {0, 1}, new int[] {0, 10});
        dueSplit("none missing", x, 0, 0, 0);
        doc.due("leaf of a missing one", x.leaf(0, NONE, 0, 0, 0), 1);
        BoostForests y = stumpOf(new int[] {0, 1, NONE}, new int[] {0, 10, 10});
        y.hold(2, 1);
        dueSplit("a missing one that is held", y, 0, 0, 0);
    }

    private static void numbersAsTheyCome() {
        doc.says(6, "NODES are numbered as they come: the ROOT 0; each NODE, by its number, is SPLIT in two with the "
            + "next numbers (LEFT first), or is a LEAF.");
        BoostForests x = stumpOf(new int[] {0, 1, 2}, new int[] {0, 50, 60});
        x.set(DEPTH, 2);
        x.train();
        doc.due("the LEFT node is a leaf", x.node(0, 1, 0), NONE);
        doc.due("the RIGHT node's LEFT one", x.node(0, 2, 3), 3);
        doc.due("rows of 3", x.node(0, 3, 4), 1);
        doc.due("VALUE of 3", x.sum(0, 3, 1), 50 * 256);
        doc.due("VALUE of 4", x.sum(0, 4, 1), 60 * 256);
        doc.due("size", x.size(0), 5);
        BoostForests y = stumpOf(new int[] {0, 1, 2, 3}, new int[] {0, 10, 70, 80});
        y.set(DEPTH, 2);
        y.train();
        doc.due("LEFT of 0", y.node(0, 0, 3), 1);
        doc.due("LEFT of 1", y.node(0, 1, 3), 3);
        doc.due("LEFT of 2", y.node(0, 2, 3), 5);
        for (int i = 0; i < 4; i++) {
            doc.due("VALUE of " + (3 + i), y.sum(0, 3 + i, 1), 256L * new int[] {0, 10, 70, 80}[i]);
        }
    }

    private static void heldAndUndrawnGrow() {
        doc.says(6, "Then F of each ROW (HELD ones, too, and those that did not take part) grows");
        BoostForests x = stumpOf(new int[] {0, 0, 0}, new int[] {10, 10, 10});
        x.set(ROWS_SHARE, 1);
        x.hold(2, 1);
        // By SEED 0 row 0 has DRAWN 0, row 1 has 103.
        x.train();
        doc.due("rows that took part", x.node(0, 0, 4), 1);
        doc.due("loss(0, 0)", x.loss(0, 0), 2 * 6553600);
        doc.due("loss(1, 0)", x.loss(1, 0), 0);
        doc.due("loss(0, 1)", x.loss(0, 1), 6553600);
        doc.due("loss(1, 1)", x.loss(1, 1), 0);
        // What a missing number did not do in TRAINING it does behind it: LEFT.
        BoostForests y = stumpOf(new int[] {0, 1, NONE}, new int[] {10, 90, 10});
        y.hold(2, 1);
        y.train();
        doc.due("a held missing one goes LEFT", y.loss(1, 1), 0);
    }

    private static long shrunk(int aim, int addend, int shrink) {
        BoostForests x = stump();
        x.set(ADDEND, addend);
        x.set(SHRINK, shrink);
        x.row(0, 0, 0, 0, aim, 1);
        x.train();
        long adds = x.answer(1, 0, 0, 0, 0), off = adds - 256L * aim;
        doc.due("loss(1, 0) of " + aim + ", " + addend + ", " + shrink, x.loss(1, 0), off * off);
        doc.due("told of the leaf", x.told(0, 0, 0, 0, 0), adds);
        return adds;
    }

    private static void shrinkTowardsZero() {
        doc.says(6, "grows by VALUE of the LEAF where it comes to, times SHRINK, by 256, cut towards 0.");
        doc.due("256 by SHRINK 1", shrunk(1, 0, 1), 1);
        doc.due("-256 by SHRINK 1", shrunk(-1, 0, 1), -1);
        doc.due("128 by SHRINK 1", shrunk(1, 1, 1), 0);
        doc.due("-128 by SHRINK 1", shrunk(-1, 1, 1), 0);
        doc.due("384 by SHRINK 1", shrunk(3, 1, 1), 1);
        doc.due("-384 by SHRINK 1", shrunk(-3, 1, 1), -1);
        doc.due("85 by SHRINK 255", shrunk(1, 2, 255), 84);
        doc.due("-85 by SHRINK 255", shrunk(-1, 2, 255), -84);
        doc.due("-85 by SHRINK 256", shrunk(-1, 2, 256), -85);
        doc.due("25600 by SHRINK 256", shrunk(100, 0, 256), 25600);
    }

    /** Two rows that only one draws in each ROUND, as the SEED tells, and a held one; all in one leaf. */
    private static BoostForests drawnInTurn(int seed, int share, int aim0, int aim1, int heldAim) {
        BoostForests x = new BoostForests();
        x.set(ROUNDS, 12);
        x.set(SEED, seed);
        x.set(ROWS_SHARE, share);
        x.row(0, 0, 0, 0, aim0, 1);
        x.row(0, 0, 0, 0, aim1, 1);
        x.row(0, 0, 0, 0, heldAim, 1);
        x.hold(2, 1);
        return x;
    }

    private static void patienceOfNone() {
        doc.says(6, "With PATIENCE above 0, and some HELD ROWS");
        BoostForests x = stumpOf(new int[] {0, 0}, new int[] {100, -100});
        x.hold(1, 1);
        x.set(ROUNDS, 12);
        doc.due("PATIENCE 0", x.train(), 12);
        doc.due("best()", x.best(), 0);
        for (int patience = 1; patience <= 12; patience++) {
            x.set(PATIENCE, patience);
            doc.due("PATIENCE " + patience, x.train(), patience);
        }
        x.set(ROUNDS, 5);
        doc.due("PATIENCE 12 of 5 ROUNDS", x.train(), 5);
        x.set(ROUNDS, 0);
        x.set(PATIENCE, 1);
        doc.due("PATIENCE 1 of no ROUNDS", x.train(), 0);
    }

    private static void patienceWithoutHeld() {
        doc.says(6, "and some HELD ROWS");
        BoostForests x = stumpOf(new int[] {0, 0}, new int[] {0, 0});
        x.set(ROUNDS, 12);
        x.set(PATIENCE, 1);
        doc.due("none HELD", x.train(), 12);
        x.hold(1, 1);
        doc.due("one HELD", x.train(), 1);
        x.hold(1, 0);
        doc.due("none HELD again", x.train(), 12);
    }

    private static void patienceOfEqualLoss() {
        doc.says(6, "when LOSS of these has not become less than its least before");
        // Nothing is left over at all: LOSS stays as it was ahead of ROUND 0.
        BoostForests x = stumpOf(new int[] {0, 0}, new int[] {0, 50});
        x.hold(1, 1);
        x.set(ROUNDS, 12);
        x.set(PATIENCE, 1);
        doc.due("LOSS that stays, PATIENCE 1", x.train(), 1);
        x.set(PATIENCE, 3);
        doc.due("LOSS that stays, PATIENCE 3", x.train(), 3);
        // Fitted behind ROUND 0; the next ROUND gains nothing.
        BoostForests y = stumpOf(new int[] {0, 0}, new int[] {50, 50});
        y.hold(1, 1);
        y.set(ROUNDS, 12);
        y.set(PATIENCE, 1);
        doc.due("LOSS that became 0, PATIENCE 1", y.train(), 2);
        y.set(ADDEND, 1);
        // Half of what is left over goes in each ROUND.
        doc.due("LOSS that becomes less in each ROUND", y.train(), 12);
    }

    private static void patienceAgainstTheLeast() {
        doc.says(6, "(that ahead of ROUND 0 among them)");
        // F: 12800 by row 0, then 6400, 3200 by row 1: less from ROUND to ROUND, but never less than 0 at first.
        BoostForests x = drawnInTurn(2, 100, 100, 0, 0);
        x.set(PATIENCE, 3);
        doc.due("train()", x.train(), 3);
        doc.due("took(0)", x.took(0), 1);
        doc.due("took(1)", x.took(1), 2);
        doc.due("loss(0, 1)", x.loss(0, 1), 0);
        doc.due("loss(1, 1)", x.loss(1, 1), 12800L * 12800);
        doc.due("loss(2, 1)", x.loss(2, 1), 6400L * 6400);
        doc.due("loss(3, 1)", x.loss(3, 1), 3200L * 3200);
        doc.due("best()", x.best(), 0);
    }

    private static void patienceOneAfterTheOther() {
        doc.says(6, "in PATIENCE ROUNDS one after the other");
        // F: 0 by row 0 (no gain), 1280 by row 1 (LOSS 0), then two ROUNDS that can't gain.
        BoostForests x = drawnInTurn(2, 100, 0, 10, 5);
        x.set(PATIENCE, 2);
        doc.due("train()", x.train(), 4);
        doc.due("loss(1, 1)", x.loss(1, 1), 1280L * 1280);
        doc.due("loss(2, 1)", x.loss(2, 1), 0);
        doc.due("best()", x.best(), 2);
        x.set(PATIENCE, 1);
        doc.due("train() by PATIENCE 1", x.train(), 1);
    }

    private static void patienceEndsBehindThatRound() {
        doc.says(6, "TRAINING ends behind that ROUND.");
        BoostForests x = stumpOf(new int[] {0, 0}, new int[] {100, -100});
        x.hold(1, 1);
        x.set(ROUNDS, 12);
        x.set(PATIENCE, 1);
        doc.due("train()", x.train(), 1);
        doc.due("that TREE stays", x.answer(1, 0, 0, 0, 0), 25600);
        doc.due("loss(1, 1)", x.loss(1, 1), 51200L * 51200);
        doc.due("took(0)", x.took(0), 1);
        doc.due("size(0)", x.size(0), 1);
        doc.due("size(1)", x.size(1), BAD);
        doc.due("loss(2, 1)", x.loss(2, 1), BAD);
    }
}
