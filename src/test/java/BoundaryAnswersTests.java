/** The boundary cases of answers, losses, columns and shares, sentence by sentence: promises 11 to 18. */
public final class BoundaryAnswersTests {
    private static final int NONE = -1, BAD = -2;
    private static final int MIN = Integer.MIN_VALUE, MAX = Integer.MAX_VALUE;
    private static final int DEPTH = 0, ADDEND = 2, SHRINK = 3, ROUNDS = 4;
    private static final int ROWS_SHARE = 6, BASE = 9, SEED = 10;
    private static final int[] NO_NUMBERS = {-2, 32, MIN, MAX};

    private static final Sentences doc = new Sentences();

    public static void main(String[] args) {
        answerByNone();
        answerByAll();
        answerRefusedOfN();
        answerRefusedOfNumbers();
        answerAheadOfTraining();

        lossBehindEachTree();
        lossOfUndrawn();
        lossOfNoneHeld();
        lossRefused();
        lossAheadOfTraining();

        bestAheadOfAll();
        bestIsTheFirst();
        bestOfLast();
        bestOfNoneHeld();
        bestAheadOfTraining();

        withoutOfTookPart();
        withoutOfHeld();
        withoutOfSomeTrees();
        withoutRefused();

        tookOfAllTrees();
        tookOfNoTrees();
        tookRefused();

        gainOverTrees();
        gainOfUnusedColumn();
        gainRefused();

        toldByMasks();
        toldOfMissing();
        toldDownward();
        toldDownwardAtEachNode();
        toldByRowsNotWeights();
        toldByRowsOfTraining();
        toldOfLeafTowardsZero();
        toldRefused();

        shareBySizes();
        shareOfUnusedColumn();
        shareOfMissing();
        shareRefused();
        doc.end(11, 12, 13, 14, 15, 16, 17, 18);
    }

    private static BoostForests stump() {
        BoostForests x = new BoostForests();
        x.set(DEPTH, 1);
        x.set(ADDEND, 0);
        x.set(ROUNDS, 1);
        return x;
    }

    private static BoostForests trainedPair() {
        BoostForests x = stump();
        x.row(0, 5, 5, 5, 0, 1);
        x.row(1, 5, 5, 5, 10, 1);
        x.train();
        return x;
    }

    /** Rows that no column tells apart: one leaf for all. */
    private static BoostForests alike(int... aims) {
        BoostForests x = stump();
        for (int aim : aims) {
            x.row(0, 0, 0, 0, aim, 1);
        }
        return x;
    }

    private static void answerByNone() {
        doc.says(11, "ANSWERS by the first n TREES, for four numbers (also NONE): 256 BASE and what they add");
        for (int base : new int[] {-100, 0, 100}) {
            BoostForests x = alike(7);
            x.set(BASE, base);
            x.train();
            doc.due("answer(0, ..) by BASE " + base, x.answer(0, 0, 0, 0, 0), 256L * base);
            doc.due("answer(0, ..) of missing numbers", x.answer(0, NONE, NONE, NONE, NONE), 256L * base);
            doc.due("answer(1, ..) by BASE " + base, x.answer(1, NONE, NONE, NONE, NONE), 7 * 256);
        }
    }

    private static void answerByAll() {
        doc.says(11, "The ANSWER by the first n TREES (0 and up).");
        BoostForests x = alike(100);
        x.set(ROUNDS, 12);
        x.set(ADDEND, 1);
        x.train();
        long f = 0;
        for (int n = 0; n <= 12; n++) {
            doc.due("answer(" + n + ", ..)", x.answer(n, 0, 0, 0, 0), f);
            f += (25600 - f) / 2;
        }
    }

    private static void answerRefusedOfN() {
        doc.says(11, "0: n, numbers are none.");
        BoostForests x = alike(100);
        x.set(BASE, 50);
        x.train();
        for (int n : new int[] {-1, 2, 12, 13, MIN, MAX}) {
            doc.due("answer(" + n + ", ..)", x.answer(n, 0, 0, 0, 0), 0);
        }
        x.set(ROUNDS, 12);
        x.train();
        doc.due("answer(12, ..)", x.answer(12, 0, 0, 0, 0), 25600);
        doc.due("answer(13, ..)", x.answer(13, 0, 0, 0, 0), 0);
    }

    private static void answerRefusedOfNumbers() {
        doc.says(11, "n, numbers are none.");
        BoostForests x = alike(100);
        x.set(BASE, 50);
        x.train();
        for (int v : NO_NUMBERS) {
            for (int n = 0; n <= 1; n++) {
                doc.due("answer(" + n + ", " + v + ", 0, 0, 0)", x.answer(n, v, 0, 0, 0), 0);
                doc.due("answer(" + n + ", 0, " + v + ", 0, 0)", x.answer(n, 0, v, 0, 0), 0);
                doc.due("answer(" + n + ", 0, 0, " + v + ", 0)", x.answer(n, 0, 0, v, 0), 0);
                doc.due("answer(" + n + ", 0, 0, 0, " + v + ")", x.answer(n, 0, 0, 0, v), 0);
            }
        }
        doc.due("answer(1, 31, -1, 31, -1)", x.answer(1, 31, NONE, 31, NONE), 25600);
    }

    private static void answerAheadOfTraining() {
        doc.says(11, "answers, LOSS is by the ROWS and SETTINGS of then");
        BoostForests x = alike(100);
        x.set(BASE, 50);
        doc.due("answer(0, ..) ahead of TRAINING", x.answer(0, 0, 0, 0, 0), 0);
        doc.due("answer(1, ..) ahead of TRAINING", x.answer(1, 0, 0, 0, 0), 0);
    }

    private static void lossBehindEachTree() {
        doc.says(12, "LOSS behind the first n TREES of ROWS that took part in TRAINING (what = 0: not HELD), "
            + "of HELD ones (1).");
        BoostForests x = stump();
        x.row(0, 0, 0, 0, 10, 2);
        x.row(0, 0, 0, 0, -10, 3);
        x.hold(1, 1);
        x.train();
        doc.due("loss(0, 0)", x.loss(0, 0), 2L * 2560 * 2560);
        doc.due("loss(0, 1)", x.loss(0, 1), 3L * 2560 * 2560);
        doc.due("loss(1, 0)", x.loss(1, 0), 0);
        doc.due("loss(1, 1)", x.loss(1, 1), 3L * 5120 * 5120);
    }

    private static void lossOfUndrawn() {
        doc.says(12, "ROWS that took part in TRAINING (what = 0: not HELD)");
        // By SEED 0 row 0 has DRAWN 0 in ROUND 0, row 1 has 103.
        BoostForests x = alike(10, 20);
        x.set(ROWS_SHARE, 1);
        x.train();
        doc.due("took(1)", x.took(1), 0);
        doc.due("loss(0, 0)", x.loss(0, 0), 2560L * 2560 + 5120L * 5120);
        doc.due("loss(1, 0)", x.loss(1, 0), 2560L * 2560);
        doc.due("loss(1, 1)", x.loss(1, 1), 0);
    }

    private static void lossOfNoneHeld() {
        doc.says(12, "of HELD ones (1).");
        BoostForests x = alike(10, 20);
        x.train();
        doc.due("loss(0, 1) of none", x.loss(0, 1), 0);
        doc.due("loss(1, 1) of none", x.loss(1, 1), 0);
    }

    private static void lossRefused() {
        doc.says(12, "BAD: n, what, no TRAINING.");
        BoostForests x = alike(10, 20);
        x.hold(1, 1);
        x.train();
        for (int n : new int[] {-1, 2, 12, 13, MIN, MAX}) {
            doc.due("loss(" + n + ", 0)", x.loss(n, 0), BAD);
            doc.due("loss(" + n + ", 1)", x.loss(n, 1), BAD);
        }
        for (int what : new int[] {-1, 2, MIN, MAX}) {
            doc.due("loss(0, " + what + ")", x.loss(0, what), BAD);
        }
        x.set(ROUNDS, 12);
        x.train();
        doc.due("loss(12, 0)", x.loss(12, 0), 0);
        doc.due("loss(13, 0)", x.loss(13, 0), BAD);
    }

    private static void lossAheadOfTraining() {
        doc.says(12, "no TRAINING.");
        BoostForests x = alike(10, 20);
        doc.due("loss(0, 0)", x.loss(0, 0), BAD);
        doc.due("loss(0, 1)", x.loss(0, 1), BAD);
        x.hold(0, 1);
        x.hold(1, 1);
        x.train();
        doc.due("loss(0, 1) behind a refused TRAINING", x.loss(0, 1), BAD);
        x.hold(0, 0);
        x.set(ROUNDS, 0);
        x.train();
        doc.due("loss(0, 1) behind a TRAINING of no TREES", x.loss(0, 1), 5120L * 5120);
    }

    private static void bestAheadOfAll() {
        doc.says(13, "After how many TREES LOSS of HELD ROWS was least");
        BoostForests x = alike(100, -100);
        x.hold(1, 1);
        x.set(ROUNDS, 12);
        x.train();
        doc.due("LOSS was least ahead of all", x.best(), 0);
        x.set(ROUNDS, 0);
        x.train();
        doc.due("of no TREES", x.best(), 0);
    }

    private static void bestIsTheFirst() {
        doc.says(13, "of several the first");
        BoostForests x = alike(10, 10);
        x.hold(1, 1);
        x.set(ROUNDS, 12);
        x.train();
        doc.due("LOSS 0 behind 1 .. 12", x.best(), 1);
        x.clear();
        x.row(0, 0, 0, 0, 0, 1);
        x.row(0, 0, 0, 0, 10, 1);
        x.hold(1, 1);
        x.train();
        doc.due("LOSS that stays behind 0 .. 12", x.best(), 0);
    }

    private static void bestOfLast() {
        doc.says(13, "LOSS of HELD ROWS was least");
        BoostForests x = alike(100, 100);
        x.hold(1, 1);
        x.set(ADDEND, 1);
        x.set(ROUNDS, 12);
        x.train();
        doc.due("LOSS that becomes less to the end", x.best(), 12);
        x.clear();
        doc.due("best() behind clear()", x.best(), 12);
    }

    private static void bestOfNoneHeld() {
        doc.says(13, "of none HELD: how many TREES.");
        BoostForests x = alike(100, -100);
        for (int rounds = 0; rounds <= 12; rounds++) {
            x.set(ROUNDS, rounds);
            x.train();
            doc.due("of " + rounds + " TREES", x.best(), rounds);
        }
        x.hold(1, 1);
        doc.due("held behind TRAINING", x.best(), 12);
        x.train();
        x.hold(1, 0);
        doc.due("held in TRAINING", x.best(), 0);
    }

    private static void bestAheadOfTraining() {
        doc.says(13, "BAD: no TRAINING.");
        BoostForests x = new BoostForests();
        doc.due("of a new object", x.best(), BAD);
        x.row(0, 0, 0, 0, 0, 1);
        x.hold(0, 1);
        x.train();
        doc.due("behind a refused TRAINING", x.best(), BAD);
    }

    private static void withoutOfTookPart() {
        doc.says(14, "256 BASE and what those TREES add in which it did not take part");
        BoostForests x = alike(10, 10);
        x.set(BASE, -100);
        x.set(ROUNDS, 12);
        x.train();
        doc.due("a ROW of all TREES", x.without(0), -25600);
        x.set(ROUNDS, 0);
        x.train();
        doc.due("a ROW of no TREES", x.without(0), -25600);
    }

    private static void withoutOfHeld() {
        doc.says(14, "What was LEFT OUT: for ROW i of TRAINING");
        BoostForests x = trainedPair();
        x.row(1, 5, 5, 5, 90, 1);
        x.hold(2, 1);
        x.set(ROUNDS, 3);
        x.set(BASE, 2);
        x.train();
        doc.due("a HELD ROW", x.without(2), x.answer(3, 1, 5, 5, 5));
        doc.due("a HELD ROW, worked out", x.without(2), 2560);
        doc.due("a ROW that took part", x.without(1), 512);
    }

    private static void withoutOfSomeTrees() {
        doc.says(14, "those TREES add in which it did not take part");
        // By SEED 2 and a share of 100 row 0 takes part in ROUND 0, row 1 in ROUNDS 1 and 2.
        BoostForests x = alike(100, 0);
        x.set(ADDEND, 1);
        x.set(SEED, 2);
        x.set(ROWS_SHARE, 100);
        x.set(ROUNDS, 3);
        x.train();
        // The TREES add 12800, -6400 and -3200.
        doc.due("answer(3, ..)", x.answer(3, 0, 0, 0, 0), 3200);
        doc.due("row 0, without ROUNDS 1 and 2", x.without(0), -9600);
        doc.due("row 1, without ROUND 0", x.without(1), 12800);
        doc.due("took(0)", x.took(0), 1);
        doc.due("took(1)", x.took(1), 2);
    }

    private static void withoutRefused() {
        doc.says(14, "0: none such.");
        BoostForests x = alike(10, 10);
        x.set(BASE, 5);
        doc.due("ahead of TRAINING", x.without(0), 0);
        x.train();
        for (int i : new int[] {-1, 2, 39, 40, MIN, MAX}) {
            doc.due("without(" + i + ")", x.without(i), 0);
        }
        x.row(0, 0, 0, 0, 0, 1);
        doc.due("a ROW behind TRAINING", x.without(2), 0);
        x.clear();
        doc.due("a ROW of TRAINING that went", x.without(1), 1280);
    }

    private static void tookOfAllTrees() {
        doc.says(15, "In how many TREES ROW i took part.");
        BoostForests x = new BoostForests();
        x.set(ROUNDS, 12);
        for (int i = 0; i < 40; i++) {
            x.row(i % 32, 0, 0, 0, 0, 1);
        }
        x.train();
        doc.due("the first ROW", x.took(0), 12);
        doc.due("the last ROW", x.took(39), 12);
        x.set(ROUNDS, 1);
        x.train();
        doc.due("of one TREE", x.took(39), 1);
    }

    private static void tookOfNoTrees() {
        doc.says(15, "In how many TREES");
        BoostForests x = alike(10, 10);
        x.hold(1, 1);
        x.set(ROUNDS, 12);
        x.train();
        doc.due("a HELD ROW", x.took(1), 0);
        doc.due("the other one", x.took(0), 12);
        // SEED 77 draws row 0 in no ROUND by a share of 1.
        x.set(SEED, 77);
        x.set(ROWS_SHARE, 1);
        x.train();
        doc.due("a ROW that was not drawn", x.took(0), 0);
        x.set(ROUNDS, 0);
        x.train();
        doc.due("of no TREES", x.took(0), 0);
    }

    private static void tookRefused() {
        doc.says(15, "ROW i took part. BAD.");
        BoostForests x = alike(10, 10);
        doc.due("ahead of TRAINING", x.took(0), BAD);
        x.train();
        for (int i : new int[] {-1, 2, 39, 40, MIN, MAX}) {
            doc.due("took(" + i + ")", x.took(i), BAD);
        }
        x.row(0, 0, 0, 0, 0, 1);
        doc.due("a ROW behind TRAINING", x.took(2), BAD);
        x.clear();
        doc.due("a ROW of TRAINING that went", x.took(1), 1);
    }

    private static void gainOverTrees() {
        doc.says(16, "The sum of all differences of WORTHS of SPLITS by a COLUMN.");
        BoostForests x = trainedPair();
        doc.due("gain(0) of one SPLIT", x.gain(0), 3276800);
        x.set(SHRINK, 128);
        x.set(ROUNDS, 2);
        x.train();
        // ROUND 1: 1280 is left over of 2560.
        doc.due("gain(0) of two TREES", x.gain(0), 3276800 + 819200);
        BoostForests y = stump();
        y.set(DEPTH, 2);
        y.row(0, 0, 0, 0, 0, 1);
        y.row(0, 0, 0, 1, 10, 1);
        y.row(1, 0, 0, 0, 50, 1);
        y.row(1, 0, 0, 1, 60, 1);
        y.train();
        doc.due("gain(0), the ROOT", y.gain(0), y.sum(0, 0, 2));
        // Two nodes, each of two rows 2560 apart.
        doc.due("gain(3), two nodes", y.gain(3), 2 * 3276800);
    }

    private static void gainOfUnusedColumn() {
        doc.says(16, "SPLITS by a COLUMN. 0.");
        BoostForests x = trainedPair();
        doc.due("gain(1)", x.gain(1), 0);
        doc.due("gain(3)", x.gain(3), 0);
        x.set(ROUNDS, 0);
        x.train();
        doc.due("gain(0) of no TREES", x.gain(0), 0);
        doc.due("gain(0) ahead of TRAINING", new BoostForests().gain(0), 0);
    }

    private static void gainRefused() {
        doc.says(16, "by a COLUMN. 0.");
        BoostForests x = stump();
        x.row(5, 5, 5, 0, 0, 1);
        x.row(5, 5, 5, 1, 10, 1);
        x.train();
        doc.due("gain(3), the last COLUMN", x.gain(3), 3276800);
        for (int column : new int[] {-1, 4, 5, MIN, MAX}) {
            doc.due("gain(" + column + ")", x.gain(column), 0);
        }
    }

    /** A leaf of 2560 for four ones and of 0 for all else: each column halves what is told. */
    private static BoostForests allOfFour() {
        BoostForests x = stump();
        x.set(DEPTH, 4);
        for (int i = 0; i < 16; i++) {
            x.row(i & 1, i >> 1 & 1, i >> 2 & 1, i >> 3 & 1, i == 15 ? 10 : 0, 1);
        }
        x.train();
        return x;
    }

    private static void toldByMasks() {
        doc.says(17, "KNOWING those COLUMNS c for which mask has 2 to the power of c (0 .. 15).");
        BoostForests x = allOfFour();
        for (int mask = 0; mask < 16; mask++) {
            doc.due("told(" + mask + ", 1, 1, 1, 1)", x.told(mask, 1, 1, 1, 1), 160L << Integer.bitCount(mask));
            for (int c = 0; c < 4; c++) {
                int[] q = {1, 1, 1, 1};
                q[c] = 0;
                boolean known = (mask >> c & 1) == 1;
                doc.due("told(" + mask + ", ..) with 0 in column " + c, x.told(mask, q[0], q[1], q[2], q[3]),
                    known ? 0 : 160L << Integer.bitCount(mask));
            }
        }
    }

    private static void toldOfMissing() {
        doc.says(17, "one that is SPLIT by a COLUMN that is known what the side to which it goes tells");
        BoostForests x = trainedPair();
        doc.due("known and missing, LEFT", x.told(1, NONE, 0, 0, 0), 0);
        doc.due("not known and missing", x.told(14, NONE, 0, 0, 0), 1280);
        x.row(NONE, 5, 5, 5, 10, 1);
        x.train();
        doc.due("known and missing, RIGHT", x.told(1, NONE, 0, 0, 0), 2560);
        doc.due("known, at the CUT", x.told(1, 0, 0, 0, 0), 0);
        doc.due("known, above the CUT", x.told(1, 1, 0, 0, 0), 2560);
        // Sides of one row (0) and of two (2560): 5120 by 3.
        doc.due("not known", x.told(0, NONE, 0, 0, 0), 1706);
    }

    private static void toldDownward() {
        doc.says(17, "by the ROWS that the NODE had, cut off downward.");
        BoostForests x = stump();
        x.row(0, 0, 0, 0, 0, 1);
        x.row(0, 0, 0, 0, 0, 1);
        x.row(1, 0, 0, 0, -1, 1);
        x.train();
        doc.due("-256 by 3", x.told(0, 0, 0, 0, 0), -86);
        x.clear();
        x.row(0, 0, 0, 0, 0, 1);
        x.row(0, 0, 0, 0, 0, 1);
        x.row(1, 0, 0, 0, 1, 1);
        x.train();
        doc.due("256 by 3", x.told(0, 0, 0, 0, 0), 85);
        x.set(BASE, -1);
        x.train();
        // Leaves add 256 and 512: 1024 by 3, and the base.
        doc.due("1024 by 3, by BASE -1", x.told(0, 0, 0, 0, 0), 341 - 256);
    }

    private static void toldDownwardAtEachNode() {
        doc.says(17, "else what both sides tell, each times the ROWS that it had in TRAINING, together");
        BoostForests x = stump();
        x.set(DEPTH, 2);
        x.row(0, 0, 0, 0, 0, 1);
        x.row(1, 0, 0, 0, -50, 1);
        x.row(1, 0, 0, 0, -50, 1);
        x.row(2, 0, 0, 0, -51, 1);
        x.train();
        doc.due("size", x.size(0), 5);
        // The RIGHT node tells -38656 by 3, downward -12886; the ROOT three times that, by 4.
        doc.due("told(0, ..)", x.told(0, 0, 0, 0, 0), -9665);
    }

    private static void toldByRowsNotWeights() {
        doc.says(17, "each times the ROWS that it had in TRAINING");
        BoostForests x = stump();
        x.row(0, 0, 0, 0, 0, 1);
        x.row(1, 0, 0, 0, 10, 8);
        x.train();
        doc.due("WEIGHTS 1 and 8", x.told(0, 0, 0, 0, 0), 1280);
    }

    private static void toldByRowsOfTraining() {
        doc.says(17, "the ROWS that it had in TRAINING");
        BoostForests x = trainedPair();
        for (int i = 0; i < 38; i++) {
            x.row(1, 5, 5, 5, 10, 1);
            x.hold(2 + i, 1);
        }
        x.train();
        doc.due("beside 38 HELD ones at the RIGHT", x.told(0, 0, 0, 0, 0), 1280);
        x.clear();
        doc.due("behind clear()", x.told(0, 0, 0, 0, 0), 1280);
    }

    private static void toldOfLeafTowardsZero() {
        doc.says(17, "a LEAF its VALUE times SHRINK, by 256, cut towards 0");
        BoostForests x = alike(-3);
        x.set(ADDEND, 1);
        x.set(SHRINK, 1);
        x.train();
        doc.due("-384 by 256", x.told(0, 0, 0, 0, 0), -1);
        doc.due("-384 by 256, KNOWING all", x.told(15, 0, 0, 0, 0), -1);
    }

    private static void toldRefused() {
        doc.says(17, "(0 .. 15). 0: none such.");
        BoostForests x = trainedPair();
        x.set(BASE, 9);
        x.train();
        for (int mask : new int[] {-1, 16, 17, MIN, MAX}) {
            doc.due("told(" + mask + ", ..)", x.told(mask, 1, 1, 1, 1), 0);
        }
        for (int v : NO_NUMBERS) {
            // A number that is none is refused even where its COLUMN is not known.
            for (int mask = 0; mask <= 15; mask += 15) {
                doc.due("told(" + mask + ", " + v + ", 1, 1, 1)", x.told(mask, v, 1, 1, 1), 0);
                doc.due("told(" + mask + ", 1, " + v + ", 1, 1)", x.told(mask, 1, v, 1, 1), 0);
                doc.due("told(" + mask + ", 1, 1, " + v + ", 1)", x.told(mask, 1, 1, v, 1), 0);
                doc.due("told(" + mask + ", 1, 1, 1, " + v + ")", x.told(mask, 1, 1, 1, v), 0);
            }
        }
        doc.due("told(15, 31, ..)", x.told(15, 31, 31, 31, 31), 2560);
        BoostForests y = alike(10);
        y.set(BASE, 9);
        doc.due("told ahead of TRAINING", y.told(0, 0, 0, 0, 0), 0);
    }

    private static void shareBySizes() {
        doc.says(18, "times 6 if s is 0 or 3, times 2 if s is 1 or 2.");
        BoostForests x = allOfFour();
        // Told KNOWING 0 .. 4 of the columns: 160, 320, 640, 1280, 2560.
        long want = 6 * 160 + 3 * 2 * 320 + 3 * 2 * 640 + 6 * 1280;
        for (int column = 0; column < 4; column++) {
            doc.due("share(" + column + ", 1, 1, 1, 1)", x.share(column, 1, 1, 1, 1), want);
        }
        // With 0 in column 0 nothing is told KNOWING it: less all that was told without it.
        long lost = -(6 * 160 + 3 * 2 * 320 + 3 * 2 * 640 + 6 * 1280);
        doc.due("share(0, 0, 1, 1, 1)", x.share(0, 0, 1, 1, 1), lost);
        // The others gain as long as column 0 is not known: by 160 of none, 320 of one, 640 of two.
        long others = 6 * 160 + 2 * 2 * 320 + 2 * 640;
        for (int column = 1; column < 4; column++) {
            doc.due("share(" + column + ", 0, 1, 1, 1)", x.share(column, 0, 1, 1, 1), others);
        }
    }

    private static void shareOfUnusedColumn() {
        doc.says(18, "what is told KNOWING S and it, less what is told KNOWING S");
        BoostForests x = trainedPair();
        x.set(BASE, 4);
        x.train();
        doc.due("share(0, 1, ..)", x.share(0, 1, 5, 5, 5), 24 * 1280);
        doc.due("share(0, 0, ..)", x.share(0, 0, 5, 5, 5), -24 * 1280);
        for (int column = 1; column < 4; column++) {
            doc.due("share(" + column + ", 1, ..)", x.share(column, 1, 5, 5, 5), 0);
        }
        x.set(ROUNDS, 0);
        x.train();
        doc.due("share(0, ..) of no TREES", x.share(0, 1, 5, 5, 5), 0);
    }

    private static void shareOfMissing() {
        doc.says(18, "24 times the FAIR SHARE of a COLUMN for four numbers.");
        BoostForests x = trainedPair();
        doc.due("missing, LEFT", x.share(0, NONE, NONE, NONE, NONE), -24 * 1280);
        x.row(NONE, 5, 5, 5, 10, 1);
        x.train();
        // Told 2560 at the RIGHT, 1706 not KNOWING it.
        doc.due("missing, RIGHT", x.share(0, NONE, NONE, NONE, NONE), 24 * 854);
    }

    private static void shareRefused() {
        doc.says(18, "for four numbers. 0: none such.");
        BoostForests x = allOfFour();
        for (int column : new int[] {-1, 4, 5, 32, MIN, MAX}) {
            doc.due("share(" + column + ", ..)", x.share(column, 1, 1, 1, 1), 0);
        }
        for (int v : NO_NUMBERS) {
            for (int column = 0; column < 4; column++) {
                doc.due("share(" + column + ", " + v + ", 1, 1, 1)", x.share(column, v, 1, 1, 1), 0);
                doc.due("share(" + column + ", 1, " + v + ", 1, 1)", x.share(column, 1, v, 1, 1), 0);
                doc.due("share(" + column + ", 1, 1, " + v + ", 1)", x.share(column, 1, 1, v, 1), 0);
                doc.due("share(" + column + ", 1, 1, 1, " + v + ")", x.share(column, 1, 1, 1, v), 0);
            }
        }
        doc.due("share(3, 31, ..)", x.share(3, 31, 31, 31, 31), 6 * 160 + 6 * 320 + 6 * 640 + 6 * 1280);
        BoostForests y = alike(10);
        doc.due("share ahead of TRAINING", y.share(0, 0, 0, 0, 0), 0);
    }
}
