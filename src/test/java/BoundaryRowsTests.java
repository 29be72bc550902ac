/** The boundary cases of rows and settings, sentence by sentence: promises 1 to 5 and 19. */
public final class BoundaryRowsTests {
    private static final int NONE = -1, BAD = -2;
    private static final int MIN = Integer.MIN_VALUE, MAX = Integer.MAX_VALUE;
    private static final int SETTINGS = 15, BASE = 9, SEED = 10;
    private static final int[] AT_FIRST = {3, 1, 1, 256, 4, 0, 256, 256, 0, 0, 0, 0, 0, 0, 0};
    private static final int[] LOWEST = {1, 1, 0, 1, 0, 0, 1, 1, 0, -100, MIN, -1, -1, -1, -1};
    private static final int[] HIGHEST = {4, 20, 1000, 256, 12, 1000000, 256, 256, 12, 100, MAX, 1, 1, 1, 1};
    private static final String[] RANGES = {"0 DEPTH (1 .. 4; at first 3)", "1 LEAST rows at a side (1 .. 20; 1)",
        "2 ADDEND (0 .. 1000; 1)", "3 SHRINK (1 .. 256; 256)", "4 ROUNDS (0 .. 12; 4)", "5 GAIN (0 .. 1000000; 0)",
        "6 ROWS' SHARE (1 .. 256; 256)", "7 COLUMNS' SHARE (1 .. 256; 256)", "8 PATIENCE (0 .. 12; 0)",
        "9 BASE (-100 .. 100; 0)", "10 SEED (any; 0)"};

    private static final Sentences doc = new Sentences();

    public static void main(String[] args) {
        newObject();
        newObjectAnswers();
        newObjectBesideAnother();
        lastOf512Calls();

        rowNumbers();
        rowIsNotHeld();
        rowCells();
        rowAims();
        rowWeights();
        rowsFull();
        rowRefusedLeavesNothing();

        holdAnswersWhatItWas();
        holdRefused();
        holdFirstAndLast();
        holdBehindClear();

        settingRanges();
        settingSigns();
        setAnswersWhatItWas();
        setRefused();

        clearCounts();
        clearFull();
        clearLeavesTrees();
        clearLeavesSettings();

        countRows();
        countHeld();
        countTrees();
        countRowsOfTraining();
        countSettings();
        countRefused();
        doc.end(1, 2, 3, 4, 5, 19);
    }

    private static void fill(BoostForests x, int rows) {
        for (int i = 0; i < rows; i++) {
            x.row(i % 32, 0, 0, 0, i, 1);
        }
    }

    /** One tree with a leaf of 0 for a row of aim 0 and a leaf of 2560 for one of aim 10. */
    private static BoostForests trainedPair() {
        BoostForests x = new BoostForests();
        x.set(0, 1);
        x.set(2, 0);
        x.set(4, 1);
        x.row(0, 5, 5, 5, 0, 1);
        x.row(1, 5, 5, 5, 10, 1);
        x.train();
        return x;
    }

    private static void newObject() {
        doc.says(1, "No ROWS, SETTINGS as at first, no TREES.");
        BoostForests x = new BoostForests();
        doc.due("count(0)", x.count(0), 0);
        doc.due("count(1)", x.count(1), 0);
        doc.due("count(2)", x.count(2), 0);
        doc.due("count(3)", x.count(3), 0);
        for (int s = 0; s < SETTINGS; s++) {
            doc.due("count(" + (4 + s) + ")", x.count(4 + s), AT_FIRST[s]);
        }
        doc.due("NONE", BoostForests.NONE, NONE);
        doc.due("BAD", BoostForests.BAD, BAD);
    }

    private static void newObjectAnswers() {
        doc.says(1, "no TREES.");
        BoostForests x = new BoostForests();
        doc.due("clear()", x.clear(), 0);
        doc.due("hold(0, 1)", x.hold(0, 1), BAD);
        doc.due("train()", x.train(), BAD);
        doc.due("node(0, 0, 0)", x.node(0, 0, 0), BAD);
        doc.due("sum(0, 0, 0)", x.sum(0, 0, 0), 0);
        doc.due("size(0)", x.size(0), BAD);
        doc.due("leaf(0, ..)", x.leaf(0, 0, 0, 0, 0), BAD);
        doc.due("answer(0, ..)", x.answer(0, 0, 0, 0, 0), 0);
        doc.due("answer(1, ..)", x.answer(1, 0, 0, 0, 0), 0);
        doc.due("loss(0, 0)", x.loss(0, 0), BAD);
        doc.due("best()", x.best(), BAD);
        doc.due("without(0)", x.without(0), 0);
        doc.due("took(0)", x.took(0), BAD);
        doc.due("gain(0)", x.gain(0), 0);
        doc.due("told(0, ..)", x.told(0, 0, 0, 0, 0), 0);
        doc.due("share(0, ..)", x.share(0, 0, 0, 0, 0), 0);
    }

    private static void newObjectBesideAnother() {
        doc.says(1, "SETTINGS as at first");
        BoostForests used = trainedPair();
        BoostForests x = new BoostForests();
        doc.due("count(0) beside a used object", x.count(0), 0);
        doc.due("count(4) beside a used object", x.count(4), 3);
        x.set(0, 4);
        x.row(1, 1, 1, 1, 1, 1);
        x.train();
        doc.due("count(4) of the used object", used.count(4), 1);
        doc.due("count(0) of the used object", used.count(0), 2);
        doc.due("answer of the used object", used.answer(1, 1, 0, 0, 0), 2560);
    }

    private static void lastOf512Calls() {
        doc.says(1, "An object is used for at most 512 calls after it has been made");
        BoostForests x = new BoostForests();
        x.set(0, 1);
        x.set(2, 0);
        x.set(4, 1);
        for (int k = 0; k < 127; k++) {
            x.clear();
            x.row(0, k % 32, 5, 5, 0, 1);
            x.row(1, k % 32, 5, 5, k % 101, 1);
            x.train();
        }
        doc.due("the 512th call", x.answer(1, 1, 0, 0, 0), 25 * 256);
        BoostForests y = new BoostForests();
        y.row(0, 0, 0, 0, 1, 1);
        for (int k = 0; k < 510; k++) {
            y.train();
        }
        doc.due("the 512th call, a training again", y.train(), 4);
    }

    private static void rowNumbers() {
        doc.says(2, "A ROW that is not HELD: its number.");
        BoostForests x = new BoostForests();
        for (int i = 0; i < 40; i++) {
            doc.due("row " + i, x.row(0, 0, 0, 0, 0, 1), i);
        }
        x.clear();
        doc.due("the first row behind clear()", x.row(0, 0, 0, 0, 0, 1), 0);
    }

    private static void rowIsNotHeld() {
        doc.says(2, "A ROW that is not HELD");
        BoostForests x = new BoostForests();
        fill(x, 40);
        doc.due("count(1) of 40 new rows", x.count(1), 0);
        for (int i = 0; i < 40; i++) {
            x.hold(i, 1);
        }
        x.clear();
        fill(x, 40);
        doc.due("count(1) of 40 rows in the place of held ones", x.count(1), 0);
        doc.due("hold(39, 0)", x.hold(39, 0), 0);
    }

    private static int rowWithCell(BoostForests x, int column, int v) {
        int[] cells = {3, 3, 3, 3};
        cells[column] = v;
        return x.row(cells[0], cells[1], cells[2], cells[3], 0, 1);
    }

    private static void rowCells() {
        doc.says(2, "39: four COLUMNS, each 0 .. 31 or NONE (missing)");
        BoostForests x = new BoostForests();
        int number = 0;
        for (int column = 0; column < 4; column++) {
            for (int v : new int[] {NONE, 0, 31}) {
                doc.due("column " + column + " of " + v, rowWithCell(x, column, v), number++);
            }
            for (int v : new int[] {-2, 32, -3, 33, MIN, MAX}) {
                doc.due("column " + column + " of " + v, rowWithCell(x, column, v), BAD);
            }
        }
        doc.due("rows", x.count(0), number);
    }

    private static void rowAims() {
        doc.says(2, "an AIM y (-100 .. 100)");
        BoostForests x = new BoostForests();
        doc.due("aim -100", x.row(0, 0, 0, 0, -100, 1), 0);
        doc.due("aim 100", x.row(0, 0, 0, 0, 100, 1), 1);
        for (int v : new int[] {-101, 101, MIN, MAX}) {
            doc.due("aim " + v, x.row(0, 0, 0, 0, v, 1), BAD);
        }
        doc.due("rows", x.count(0), 2);
        x.set(4, 0);
        x.train();
        doc.due("loss of both aims", x.loss(0, 0), 2L * 25600 * 25600);
    }

    private static void rowWeights() {
        doc.says(2, "a WEIGHT w (1 .. 8)");
        BoostForests x = new BoostForests();
        doc.due("weight 1", x.row(0, 0, 0, 0, 0, 1), 0);
        doc.due("weight 8", x.row(0, 0, 0, 0, 0, 8), 1);
        for (int v : new int[] {0, 9, -1, MIN, MAX}) {
            doc.due("weight " + v, x.row(0, 0, 0, 0, 0, v), BAD);
        }
        doc.due("rows", x.count(0), 2);
        x.train();
        doc.due("H of both weights", x.node(0, 0, 5), 9);
    }

    private static void rowsFull() {
        doc.says(2, "or there are 40.");
        BoostForests x = new BoostForests();
        fill(x, 39);
        doc.due("row 39", x.row(0, 0, 0, 0, 0, 1), 39);
        doc.due("row 40", x.row(0, 0, 0, 0, 0, 1), BAD);
        doc.due("row 40 again", x.row(0, 0, 0, 0, 0, 1), BAD);
        doc.due("rows", x.count(0), 40);
        doc.due("hold(40, 1)", x.hold(40, 1), BAD);
        x.train();
        doc.due("rows of training", x.count(3), 40);
        doc.due("took(39)", x.took(39), 4);
        doc.due("took(40)", x.took(40), BAD);
        x.clear();
        fill(x, 39);
        doc.due("row 39 behind clear()", x.row(0, 0, 0, 0, 0, 1), 39);
        doc.due("row 40 behind clear()", x.row(0, 0, 0, 0, 0, 1), BAD);
    }

    private static void rowRefusedLeavesNothing() {
        doc.says(2, "BAD: a number is none (COLUMNS), the AIM, the WEIGHT, or there are 40.");
        BoostForests x = trainedPair();
        doc.due("a wrong column", x.row(32, 0, 0, 0, 0, 1), BAD);
        doc.due("a wrong aim", x.row(0, 0, 0, 0, 101, 1), BAD);
        doc.due("a wrong weight", x.row(0, 0, 0, 0, 0, 0), BAD);
        doc.due("all wrong", x.row(MIN, MAX, MIN, MAX, MIN, MAX), BAD);
        doc.due("rows", x.count(0), 2);
        doc.due("the training again", x.train(), 1);
        doc.due("its rows", x.node(0, 0, 4), 2);
        doc.due("its answer", x.answer(1, 1, 0, 0, 0), 2560);
        doc.due("the next row", x.row(0, 0, 0, 0, 0, 1), 2);
    }

    private static void holdAnswersWhatItWas() {
        doc.says(3, "A ROW is HELD (v = 1), or not (0): what it was.");
        BoostForests x = new BoostForests();
        fill(x, 1);
        doc.due("hold(0, 0) of a new row", x.hold(0, 0), 0);
        doc.due("hold(0, 1)", x.hold(0, 1), 0);
        doc.due("hold(0, 1) of a held one", x.hold(0, 1), 1);
        doc.due("hold(0, 0) of a held one", x.hold(0, 0), 1);
        doc.due("hold(0, 0) again", x.hold(0, 0), 0);
        doc.due("count(1)", x.count(1), 0);
    }

    private static void holdRefused() {
        doc.says(3, "what it was. BAD.");
        BoostForests x = new BoostForests();
        fill(x, 3);
        x.hold(1, 1);
        for (int row : new int[] {-1, 3, 39, 40, MIN, MAX}) {
            doc.due("hold(" + row + ", 1)", x.hold(row, 1), BAD);
            doc.due("hold(" + row + ", 0)", x.hold(row, 0), BAD);
        }
        for (int v : new int[] {-1, 2, MIN, MAX}) {
            doc.due("hold(0, " + v + ")", x.hold(0, v), BAD);
            doc.due("hold(1, " + v + ")", x.hold(1, v), BAD);
        }
        doc.due("row 0 as before", x.hold(0, 0), 0);
        doc.due("row 1 as before", x.hold(1, 1), 1);
        doc.due("row 2 as before", x.hold(2, 0), 0);
    }

    private static void holdFirstAndLast() {
        doc.says(3, "A ROW is HELD (v = 1)");
        BoostForests x = new BoostForests();
        fill(x, 40);
        doc.due("hold(0, 1)", x.hold(0, 1), 0);
        doc.due("hold(39, 1)", x.hold(39, 1), 0);
        doc.due("count(1)", x.count(1), 2);
        doc.due("hold(40, 1)", x.hold(40, 1), BAD);
        doc.due("hold(38, 0)", x.hold(38, 0), 0);
    }

    private static void holdBehindClear() {
        doc.says(5, "The ROWS go (TREES stay)");
        BoostForests x = new BoostForests();
        fill(x, 2);
        x.hold(1, 1);
        x.train();
        x.clear();
        doc.due("hold(0, 1) behind clear()", x.hold(0, 1), BAD);
        doc.due("count(1) behind clear()", x.count(1), 0);
        fill(x, 1);
        doc.due("hold(1, 1) of a row that went", x.hold(1, 1), BAD);
        doc.due("loss of the row that was held then", x.loss(0, 1), 65536);
    }

    private static void settingRanges() {
        for (int s = 0; s < RANGES.length; s++) {
            doc.says(4, RANGES[s]);
            settingRange(s);
        }
    }

    private static void settingSigns() {
        doc.says(4, "11 + c the SIGN of COLUMN c (-1, 0, 1; 0)");
        for (int c = 0; c < 4; c++) {
            settingRange(11 + c);
            BoostForests x = new BoostForests();
            x.set(11 + c, -1);
            doc.due("set(" + (11 + c) + ", 0)", x.set(11 + c, 0), -1);
            doc.due("count behind it", x.count(15 + c), 0);
        }
    }

    private static void settingRange(int s) {
        BoostForests x = new BoostForests();
        doc.due("setting " + s + " at first", x.count(4 + s), AT_FIRST[s]);
        doc.due("set to the lowest", x.set(s, LOWEST[s]), AT_FIRST[s]);
        doc.due("the lowest", x.count(4 + s), LOWEST[s]);
        doc.due("set to the highest", x.set(s, HIGHEST[s]), LOWEST[s]);
        doc.due("the highest", x.count(4 + s), HIGHEST[s]);
        if (s != SEED) {
            for (int v : new int[] {LOWEST[s] - 1, HIGHEST[s] + 1, MIN, MAX}) {
                doc.due("set to " + v, x.set(s, v), BAD);
                doc.due("the highest still", x.count(4 + s), HIGHEST[s]);
            }
        }
        for (int other = 0; other < SETTINGS; other++) {
            doc.due("setting " + other + " beside it", x.count(4 + other),
                other == s ? HIGHEST[s] : AT_FIRST[other]);
        }
    }

    private static void setAnswersWhatItWas() {
        doc.says(4, "A SETTING becomes v: what it was.");
        BoostForests x = new BoostForests();
        doc.due("set(9, -2)", x.set(BASE, -2), 0);
        // A SETTING may be as great as BAD is; then what it was is no refusal.
        doc.due("set(9, -2) again", x.set(BASE, -2), -2);
        doc.due("set(9, 7)", x.set(BASE, 7), -2);
        doc.due("set(10, -2)", x.set(SEED, -2), 0);
        doc.due("set(10, -1)", x.set(SEED, -1), -2);
        doc.due("count(14)", x.count(4 + SEED), -1);
    }

    private static void setRefused() {
        doc.says(4, "BAD: none such, v.");
        BoostForests x = new BoostForests();
        for (int what : new int[] {-1, 15, 16, MIN, MAX}) {
            doc.due("set(" + what + ", 0)", x.set(what, 0), BAD);
            doc.due("set(" + what + ", 1)", x.set(what, 1), BAD);
        }
        for (int s = 0; s < SETTINGS; s++) {
            doc.due("setting " + s + " as before", x.count(4 + s), AT_FIRST[s]);
        }
    }

    private static void clearCounts() {
        doc.says(5, "how many there were.");
        BoostForests x = new BoostForests();
        doc.due("clear() of none", x.clear(), 0);
        fill(x, 1);
        doc.due("clear() of one", x.clear(), 1);
        doc.due("clear() again", x.clear(), 0);
        fill(x, 3);
        x.hold(0, 1);
        x.row(99, 0, 0, 0, 0, 1);
        doc.due("clear() of held ones, too, and of no refused one", x.clear(), 3);
    }

    private static void clearFull() {
        doc.says(5, "The ROWS go");
        BoostForests x = new BoostForests();
        fill(x, 40);
        doc.due("clear() of 40", x.clear(), 40);
        doc.due("count(0)", x.count(0), 0);
        doc.due("train()", x.train(), BAD);
        doc.due("the first row", x.row(0, 0, 0, 0, 0, 1), 0);
    }

    private static void clearLeavesTrees() {
        doc.says(5, "(TREES stay)");
        BoostForests x = trainedPair();
        x.clear();
        doc.due("count(2)", x.count(2), 1);
        doc.due("count(3)", x.count(3), 2);
        doc.due("size(0)", x.size(0), 3);
        doc.due("node(0, 0, 4)", x.node(0, 0, 4), 2);
        doc.due("sum(0, 2, 1)", x.sum(0, 2, 1), 2560);
        doc.due("leaf(0, 1, ..)", x.leaf(0, 1, 0, 0, 0), 2);
        doc.due("answer(1, 1, ..)", x.answer(1, 1, 0, 0, 0), 2560);
        doc.due("loss(0, 0)", x.loss(0, 0), 6553600);
        doc.due("best()", x.best(), 1);
        doc.due("without(1)", x.without(1), 0);
        doc.due("took(1)", x.took(1), 1);
        doc.due("gain(0)", x.gain(0), 3276800);
        doc.due("told(0, 1, ..)", x.told(0, 1, 0, 0, 0), 1280);
        doc.due("share(0, 1, ..)", x.share(0, 1, 0, 0, 0), 24 * 1280);
        x.row(9, 9, 9, 9, 9, 8);
        doc.due("loss(0, 0) beside new rows", x.loss(0, 0), 6553600);
        doc.due("without(1) beside new rows", x.without(1), 0);
    }

    private static void clearLeavesSettings() {
        doc.says(5, "The ROWS go (TREES stay): how many there were.");
        BoostForests x = new BoostForests();
        for (int s = 0; s < SETTINGS; s++) {
            x.set(s, HIGHEST[s]);
        }
        x.clear();
        for (int s = 0; s < SETTINGS; s++) {
            doc.due("setting " + s, x.count(4 + s), HIGHEST[s]);
        }
    }

    private static void countRows() {
        doc.says(19, "what = 0 ROWS");
        BoostForests x = new BoostForests();
        doc.due("of none", x.count(0), 0);
        fill(x, 40);
        doc.due("of 40", x.count(0), 40);
        x.hold(0, 1);
        doc.due("with a held one", x.count(0), 40);
        x.row(0, 0, 0, 0, 0, 1);
        doc.due("behind a refused one", x.count(0), 40);
    }

    private static void countHeld() {
        doc.says(19, "1 HELD ones");
        BoostForests x = new BoostForests();
        doc.due("of none", x.count(1), 0);
        fill(x, 40);
        for (int i = 0; i < 40; i++) {
            doc.due("ahead of hold(" + i + ", 1)", x.count(1), i);
            x.hold(i, 1);
        }
        doc.due("all of 40", x.count(1), 40);
        x.hold(0, 0);
        doc.due("one less", x.count(1), 39);
    }

    private static void countTrees() {
        doc.says(19, "2 TREES");
        BoostForests x = new BoostForests();
        fill(x, 2);
        doc.due("ahead of TRAINING", x.count(2), 0);
        for (int rounds = 0; rounds <= 12; rounds++) {
            x.set(4, rounds);
            x.train();
            doc.due("of " + rounds + " rounds", x.count(2), rounds);
        }
        x.set(4, 3);
        doc.due("behind another SETTING", x.count(2), 12);
    }

    private static void countRowsOfTraining() {
        doc.says(19, "3 ROWS of TRAINING");
        BoostForests x = new BoostForests();
        fill(x, 2);
        doc.due("ahead of TRAINING", x.count(3), 0);
        x.hold(0, 1);
        x.set(4, 0);
        x.train();
        doc.due("with a held one, by no TREES", x.count(3), 2);
        fill(x, 38);
        doc.due("beside new rows", x.count(3), 2);
        x.train();
        doc.due("of 40", x.count(3), 40);
        x.clear();
        x.train();
        doc.due("behind a refused TRAINING", x.count(3), 40);
    }

    private static void countSettings() {
        doc.says(19, "4 + s SETTING s.");
        BoostForests x = new BoostForests();
        for (int s = 0; s < SETTINGS; s++) {
            x.set(s, LOWEST[s]);
        }
        for (int s = 0; s < SETTINGS; s++) {
            doc.due("count(" + (4 + s) + ")", x.count(4 + s), LOWEST[s]);
        }
        fill(x, 1);
        x.train();
        x.set(BASE, 55);
        doc.due("the SETTING of now, not of TRAINING", x.count(4 + BASE), 55);
    }

    private static void countRefused() {
        doc.says(19, "4 + s SETTING s. BAD.");
        BoostForests x = new BoostForests();
        for (int what : new int[] {-1, 19, 20, MIN, MAX}) {
            doc.due("count(" + what + ")", x.count(what), BAD);
        }
        doc.due("count(18)", x.count(18), 0);
    }
}
