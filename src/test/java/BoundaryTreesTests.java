/** The boundary cases of what each tree is, sentence by sentence: promises 7 to 10. */
public final class BoundaryTreesTests {
    private static final int NONE = -1, BAD = -2;
    private static final int MIN = Integer.MIN_VALUE, MAX = Integer.MAX_VALUE;
    private static final int FACTS = 7, SUMS = 3, MOST_NODES = 31, MOST_TREES = 12;

    private static final Sentences doc = new Sentences();

    public static void main(String[] args) {
        nodeOfRoot();
        nodeOfLeaf();
        nodeOfFullTree();
        nodeRefused();
        nodeOfLastTree();

        sumOfRoot();
        sumOfLeaf();
        sumRefused();

        sizesOfAll();
        sizeRefused();

        leafAtTheCut();
        leafOfMissing();
        leafOfRootAlone();
        leafAtFullDepth();
        leafRefusedOfTree();
        leafRefusedOfNumbers();
        doc.end(7, 8, 9, 10);
    }

    private static BoostForests stump() {
        BoostForests x = new BoostForests();
        x.set(0, 1);
        x.set(2, 0);
        x.set(4, 1);
        return x;
    }

    private static BoostForests trainedPair() {
        BoostForests x = stump();
        x.row(0, 5, 5, 5, 0, 1);
        x.row(1, 5, 5, 5, 10, 1);
        x.train();
        return x;
    }

    /** 12 trees of 31 nodes at most; SHRINK 1 leaves nearly all over for the next one. */
    private static BoostForests fullTrees() {
        BoostForests x = new BoostForests();
        x.set(0, 4);
        x.set(2, 0);
        x.set(3, 1);
        x.set(4, MOST_TREES);
        for (int i = 0; i < 32; i++) {
            x.row(i, 7, 7, 7, 3 * i, 1);
        }
        x.train();
        return x;
    }

    private static void nodeOfRoot() {
        doc.says(7, "Of NODE i of a TREE: what = 0 its COLUMN (NONE: a LEAF), 1 CUT, 2 SIDE of those that are missing "
            + "(0 LEFT, 1 RIGHT), 3 number of its LEFT NODE");
        int[] want = {0, 0, 0, 1, 2, 2, 0};
        BoostForests x = trainedPair();
        for (int what = 0; what < FACTS; what++) {
            doc.due("node(0, 0, " + what + ")", x.node(0, 0, what), want[what]);
        }
        int[] wantRight = {3, 30, 1, 1, 3, 10, 0};
        BoostForests y = stump();
        y.row(5, 5, 5, 30, 0, 1);
        y.row(5, 5, 5, 31, 10, 8);
        y.row(5, 5, 5, NONE, 10, 1);
        y.train();
        for (int what = 0; what < FACTS; what++) {
            doc.due("missing RIGHT: node(0, 0, " + what + ")", y.node(0, 0, what), wantRight[what]);
        }
    }

    private static void nodeOfLeaf() {
        doc.says(7, "(1, 2, 3: NONE of a LEAF), 4 ROWS, 5 H, 6 its depth.");
        BoostForests x = stump();
        x.row(0, 5, 5, 5, 0, 1);
        x.row(1, 5, 5, 5, 10, 8);
        x.row(1, 5, 5, 5, 10, 3);
        x.train();
        int[][] want = {{NONE, NONE, NONE, NONE, 1, 1, 1}, {NONE, NONE, NONE, NONE, 2, 11, 1}};
        for (int i = 1; i <= 2; i++) {
            for (int what = 0; what < FACTS; what++) {
                doc.due("node(0, " + i + ", " + what + ")", x.node(0, i, what), want[i - 1][what]);
            }
        }
        x.clear();
        x.row(0, 0, 0, 0, 9, 2);
        x.train();
        int[] wantAlone = {NONE, NONE, NONE, NONE, 1, 2, 0};
        for (int what = 0; what < FACTS; what++) {
            doc.due("a ROOT alone: node(0, 0, " + what + ")", x.node(0, 0, what), wantAlone[what]);
        }
    }

    private static void nodeOfFullTree() {
        doc.says(7, "3 number of its LEFT NODE");
        BoostForests x = fullTrees();
        for (int i = 0; i < 15; i++) {
            doc.due("LEFT of " + i, x.node(0, i, 3), 2 * i + 1);
        }
        for (int i = 15; i < MOST_NODES; i++) {
            doc.due("LEFT of the leaf " + i, x.node(0, i, 3), NONE);
            doc.due("rows of the leaf " + i, x.node(0, i, 4), 2);
            doc.due("depth of the leaf " + i, x.node(0, i, 6), 4);
        }
        doc.due("node(0, 31, 0)", x.node(0, MOST_NODES, 0), BAD);
    }

    private static void nodeRefused() {
        doc.says(7, "6 its depth. BAD: none such.");
        BoostForests x = trainedPair();
        for (int tree : new int[] {-1, 1, 11, 12, MIN, MAX}) {
            doc.due("node(" + tree + ", 0, 0)", x.node(tree, 0, 0), BAD);
        }
        for (int i : new int[] {-1, 3, 30, 31, MIN, MAX}) {
            doc.due("node(0, " + i + ", 4)", x.node(0, i, 4), BAD);
        }
        for (int what : new int[] {-1, 7, 8, MIN, MAX}) {
            doc.due("node(0, 0, " + what + ")", x.node(0, 0, what), BAD);
            doc.due("node(0, 2, " + what + ")", x.node(0, 2, what), BAD);
        }
        doc.due("node(1, 3, 7)", x.node(1, 3, 7), BAD);
        doc.due("node ahead of TRAINING", new BoostForests().node(0, 0, 4), BAD);
    }

    private static void nodeOfLastTree() {
        doc.says(7, "Of NODE i of a TREE");
        BoostForests x = fullTrees();
        doc.due("rows of the last ROOT", x.node(11, 0, 4), 32);
        doc.due("its column", x.node(11, 0, 0), 0);
        doc.due("node(12, 0, 4)", x.node(12, 0, 4), BAD);
    }

    private static void sumOfRoot() {
        doc.says(8, "Of that NODE: what = 0 G, 1 VALUE, 2 the difference of WORTHS of its SPLIT");
        long[] want = {-2560, 1280, 3276800};
        BoostForests x = trainedPair();
        for (int what = 0; what < SUMS; what++) {
            doc.due("sum(0, 0, " + what + ")", x.sum(0, 0, what), want[what]);
        }
    }

    private static void sumOfLeaf() {
        doc.says(8, "(0 of a LEAF)");
        BoostForests x = trainedPair();
        long[][] want = {{0, 0, 0}, {-2560, 2560, 0}};
        for (int i = 1; i <= 2; i++) {
            for (int what = 0; what < SUMS; what++) {
                doc.due("sum(0, " + i + ", " + what + ")", x.sum(0, i, what), want[i - 1][what]);
            }
        }
        // The ROOT was SPLIT before; now it is a leaf.
        x.set(1, 2);
        x.train();
        doc.due("G of a ROOT alone", x.sum(0, 0, 0), -2560);
        doc.due("VALUE of a ROOT alone", x.sum(0, 0, 1), 1280);
        doc.due("difference of a ROOT alone", x.sum(0, 0, 2), 0);
        doc.due("sum(0, 2, 0) of a node that went", x.sum(0, 2, 0), 0);
    }

    private static void sumRefused() {
        doc.says(8, "0: none such.");
        BoostForests x = trainedPair();
        for (int tree : new int[] {-1, 1, 11, 12, MIN, MAX}) {
            doc.due("sum(" + tree + ", 0, 0)", x.sum(tree, 0, 0), 0);
        }
        for (int i : new int[] {-1, 3, 30, 31, MIN, MAX}) {
            doc.due("sum(0, " + i + ", 0)", x.sum(0, i, 0), 0);
        }
        for (int what : new int[] {-1, 3, 4, MIN, MAX}) {
            doc.due("sum(0, 0, " + what + ")", x.sum(0, 0, what), 0);
        }
        doc.due("sum ahead of TRAINING", new BoostForests().sum(0, 0, 0), 0);
    }

    private static void sizesOfAll() {
        doc.says(9, "How many NODES a TREE has.");
        BoostForests x = stump();
        x.row(0, 0, 0, 0, 1, 1);
        x.train();
        doc.due("a ROOT alone", x.size(0), 1);
        doc.due("a ROOT and two leaves", trainedPair().size(0), 3);
        BoostForests y = fullTrees();
        doc.due("as many as may be", y.size(0), MOST_NODES);
        int last = y.size(11);
        doc.holds("the last of 12 trees has nodes", last > 1 && last <= MOST_NODES && last % 2 == 1);
        doc.due("its last node", y.node(11, last - 1, 0), NONE);
        doc.due("the node behind it", y.node(11, last, 0), BAD);
    }

    private static void sizeRefused() {
        doc.says(9, "How many NODES a TREE has. BAD.");
        BoostForests x = trainedPair();
        for (int tree : new int[] {-1, 1, 11, 12, MIN, MAX}) {
            doc.due("size(" + tree + ")", x.size(tree), BAD);
        }
        doc.due("size(12) of 12", fullTrees().size(12), BAD);
        doc.due("size ahead of TRAINING", new BoostForests().size(0), BAD);
        x.set(4, 0);
        x.train();
        doc.due("size(0) of no TREES", x.size(0), BAD);
    }

    private static void leafAtTheCut() {
        doc.says(10, "The NODE of a TREE to which four numbers come.");
        BoostForests x = stump();
        x.row(5, 10, 5, 5, 0, 1);
        x.row(5, 20, 5, 5, 10, 1);
        x.train();
        doc.due("0", x.leaf(0, 0, 0, 0, 0), 1);
        doc.due("the CUT", x.leaf(0, 31, 10, 31, 31), 1);
        doc.due("one above it", x.leaf(0, 0, 11, 0, 0), 2);
        doc.due("31", x.leaf(0, NONE, 31, NONE, NONE), 2);
    }

    private static void leafOfMissing() {
        doc.says(10, "for four numbers (also NONE)");
        BoostForests x = trainedPair();
        doc.due("missing, none so in TRAINING", x.leaf(0, NONE, 31, 31, 31), 1);
        doc.due("others missing", x.leaf(0, 1, NONE, NONE, NONE), 2);
        x.row(NONE, 5, 5, 5, 10, 1);
        x.train();
        doc.due("missing, RIGHT in TRAINING", x.leaf(0, NONE, 0, 0, 0), 2);
        doc.due("all missing", x.leaf(0, NONE, NONE, NONE, NONE), 2);
    }

    private static void leafOfRootAlone() {
        doc.says(10, "or is a LEAF. (Those without a SPLIT all.)");
        BoostForests x = stump();
        x.row(0, 0, 0, 0, 1, 1);
        x.train();
        doc.due("any numbers", x.leaf(0, 31, 0, NONE, 7), 0);
        doc.due("all missing", x.leaf(0, NONE, NONE, NONE, NONE), 0);
    }

    private static void leafAtFullDepth() {
        doc.says(10, "A NODE above DEPTH (the ROOT is at 0) is SPLIT");
        BoostForests x = fullTrees();
        for (int v = 0; v < 32; v++) {
            doc.due("leaf of " + v, x.leaf(0, v, 0, 0, 0), 15 + v / 2);
        }
        doc.due("leaf of a missing one", x.leaf(0, NONE, 0, 0, 0), 15);
    }

    private static void leafRefusedOfTree() {
        doc.says(10, "BAD: none such TREE, numbers.");
        BoostForests x = trainedPair();
        for (int tree : new int[] {-1, 1, 11, 12, MIN, MAX}) {
            doc.due("leaf(" + tree + ", ..)", x.leaf(tree, 0, 0, 0, 0), BAD);
        }
        doc.due("leaf(12, ..) of 12", fullTrees().leaf(12, 0, 0, 0, 0), BAD);
        doc.due("leaf ahead of TRAINING", new BoostForests().leaf(0, 0, 0, 0, 0), BAD);
    }

    private static void leafRefusedOfNumbers() {
        doc.says(10, "none such TREE, numbers.");
        BoostForests x = trainedPair();
        for (int v : new int[] {-2, 32, MIN, MAX}) {
            doc.due("leaf(0, " + v + ", 0, 0, 0)", x.leaf(0, v, 0, 0, 0), BAD);
            doc.due("leaf(0, 0, " + v + ", 0, 0)", x.leaf(0, 0, v, 0, 0), BAD);
            doc.due("leaf(0, 0, 0, " + v + ", 0)", x.leaf(0, 0, 0, v, 0), BAD);
            doc.due("leaf(0, 0, 0, 0, " + v + ")", x.leaf(0, 0, 0, 0, v), BAD);
        }
        doc.due("leaf(0, 31, 31, 31, 31)", x.leaf(0, 31, 31, 31, 31), 2);
    }
}
