import java.util.ArrayList;
import java.util.List;
import java.util.Random;

/** Many runs of calls, each answer compared with that of a slow model that follows the document word by word. */
public final class ModelTests {
    private static final int NONE = -1, BAD = -2;
    private static final int RUNS = 400;

    /** A row is a, b, c, d, aim, weight, held. */
    private static final int AIM = 4, WEIGHT = 5, HELD = 6;

    private static final class Node {
        List<Integer> rows = new ArrayList<>();
        int number, depth, column = NONE, cut = NONE, side = NONE;
        long difference;
        Node left, right;
    }

    private static final class Model {
        List<int[]> rows = new ArrayList<>();
        int[] settings = {3, 1, 1, 256, 4, 0, 256, 256, 0, 0, 0, 0, 0, 0, 0};
        List<int[]> trained = null;
        int[] s;
        List<List<Node>> trees = new ArrayList<>();
        List<List<Integer>> parts = new ArrayList<>();

        int drawn(int a) {
            int x = s[10] + 1000003 * a;
            x = (x ^ (x >>> 15)) * 0x2c1b3c6d;
            x = (x ^ (x >>> 12)) * 0x297a2d39;
            return x >>> 24;
        }

        int train() {
            boolean some = false;
            for (int[] row : rows) {
                some |= row[HELD] == 0;
            }
            if (!some) {
                return BAD;
            }
            trained = new ArrayList<>();
            for (int[] row : rows) {
                trained.add(row.clone());
            }
            s = settings.clone();
            trees.clear();
            parts.clear();
            for (int r = 0; r < s[4] && !tired(); r++) {
                List<Integer> part = new ArrayList<>();
                for (int i = 0; i < trained.size(); i++) {
                    if (trained.get(i)[HELD] == 0 && drawn(64 * r + i) < s[6]) {
                        part.add(i);
                    }
                }
                List<Node> tree = grow(part, r);
                trees.add(tree);
                parts.add(part);
            }
            return trees.size();
        }

        boolean tired() {
            boolean held = false;
            for (int[] row : trained) {
                held |= row[HELD] == 1;
            }
            int n = trees.size(), patience = s[8];
            if (!held || patience == 0 || n < patience) {
                return false;
            }
            long least = Long.MAX_VALUE;
            for (int k = 0; k <= n - patience; k++) {
                least = Math.min(least, loss(k, 1));
            }
            for (int k = n - patience + 1; k <= n; k++) {
                if (loss(k, 1) < least) {
                    return false;
                }
            }
            return true;
        }

        long g(List<Integer> of) {
            long sum = 0;
            for (int i : of) {
                sum += trained.get(i)[WEIGHT] * (answer(trees.size(), trained.get(i)) - 256L * trained.get(i)[AIM]);
            }
            return sum;
        }

        long h(List<Integer> of) {
            long sum = 0;
            for (int i : of) {
                sum += trained.get(i)[WEIGHT];
            }
            return sum;
        }

        long value(List<Integer> of) {
            return of.isEmpty() ? 0 : -g(of) / (h(of) + s[2]);
        }

        long worth(List<Integer> of) {
            return of.isEmpty() ? 0 : g(of) * g(of) / (h(of) + s[2]);
        }

        List<Node> grow(List<Integer> part, int r) {
            List<Node> tree = new ArrayList<>();
            Node root = new Node();
            root.rows = part;
            tree.add(root);
            for (int k = 0; k < tree.size(); k++) {
                Node node = tree.get(k);
                node.number = k;
                values.put(node, new long[] {g(node.rows), value(node.rows)});
                if (node.depth < s[0]) {
                    split(node, r);
                }
                if (node.column != NONE) {
                    tree.add(node.left);
                    tree.add(node.right);
                }
            }
            return tree;
        }

        /** G and VALUE are kept as they were when the tree was made, for F changes behind it. */
        java.util.IdentityHashMap<Node, long[]> values = new java.util.IdentityHashMap<>();

        boolean goesLeft(int cell, int cut, int side) {
            return cell == NONE ? side == 0 : cell <= cut;
        }

        void split(Node node, int r) {
            for (int c = 0; c < 4; c++) {
                if (drawn(100000 + 4 * r + c) >= s[7]) {
                    continue;
                }
                for (int cut = 0; cut <= 31; cut++) {
                    boolean has = false, greater = false;
                    for (int i : node.rows) {
                        has |= trained.get(i)[c] == cut;
                        greater |= trained.get(i)[c] > cut;
                    }
                    for (int side = 0; has && greater && side < 2; side++) {
                        trySplit(node, c, cut, side);
                    }
                }
            }
        }

        void trySplit(Node node, int c, int cut, int side) {
            Node left = new Node(), right = new Node();
            for (int i : node.rows) {
                (goesLeft(trained.get(i)[c], cut, side) ? left : right).rows.add(i);
            }
            if (left.rows.size() < s[1] || right.rows.size() < s[1]) {
                return;
            }
            long difference = worth(left.rows) + worth(right.rows) - worth(node.rows);
            if (difference <= s[5]) {
                return;
            }
            if (s[11 + c] == 1 && value(left.rows) > value(right.rows)) {
                return;
            }
            if (s[11 + c] == -1 && value(left.rows) < value(right.rows)) {
                return;
            }
            if (node.column != NONE && difference <= node.difference) {
                return;
            }
            left.depth = node.depth + 1;
            right.depth = node.depth + 1;
            node.column = c;
            node.cut = cut;
            node.side = side;
            node.difference = difference;
            node.left = left;
            node.right = right;
        }

        long value(Node node) {
            return values.get(node)[1];
        }

        Node leaf(Node node, int[] cells) {
            if (node.column == NONE) {
                return node;
            }
            return leaf(goesLeft(cells[node.column], node.cut, node.side) ? node.left : node.right, cells);
        }

        long adds(int tree, int[] cells) {
            return value(leaf(trees.get(tree).get(0), cells)) * s[3] / 256;
        }

        long answer(int n, int[] cells) {
            long sum = 256L * s[9];
            for (int t = 0; t < n; t++) {
                sum += adds(t, cells);
            }
            return sum;
        }

        long loss(int n, int what) {
            long sum = 0;
            for (int[] row : trained) {
                if (row[HELD] == what) {
                    long off = answer(n, row) - 256L * row[AIM];
                    sum += row[WEIGHT] * off * off;
                }
            }
            return sum;
        }

        int best() {
            int found = trees.size();
            boolean held = false;
            for (int[] row : trained) {
                held |= row[HELD] == 1;
            }
            for (int n = trees.size(); held && n >= 0; n--) {
                if (loss(n, 1) <= loss(found, 1)) {
                    found = n;
                }
            }
            return found;
        }

        long without(int i) {
            long sum = 256L * s[9];
            for (int t = 0; t < trees.size(); t++) {
                sum += parts.get(t).contains(i) ? 0 : adds(t, trained.get(i));
            }
            return sum;
        }

        int took(int i) {
            int found = 0;
            for (List<Integer> part : parts) {
                found += part.contains(i) ? 1 : 0;
            }
            return found;
        }

        long gain(int column) {
            long sum = 0;
            for (List<Node> tree : trees) {
                for (Node node : tree) {
                    sum += node.column == column ? node.difference : 0;
                }
            }
            return sum;
        }

        long tells(Node node, boolean[] known, int[] cells) {
            if (node.column == NONE) {
                return value(node) * s[3] / 256;
            }
            if (known[node.column]) {
                boolean left = goesLeft(cells[node.column], node.cut, node.side);
                return tells(left ? node.left : node.right, known, cells);
            }
            long both = tells(node.left, known, cells) * node.left.rows.size()
                + tells(node.right, known, cells) * node.right.rows.size();
            long by = node.rows.size();
            long whole = both / by;
            return both % by < 0 ? whole - 1 : whole;
        }

        long told(boolean[] known, int[] cells) {
            long sum = 256L * s[9];
            for (List<Node> tree : trees) {
                sum += tells(tree.get(0), known, cells);
            }
            return sum;
        }

        /** The columns become known one by one, in each of the 24 orders: what this one changes. */
        long share(int column, boolean[] known, int[] cells) {
            long sum = 0;
            int left = 0;
            for (int c = 0; c < 4; c++) {
                left += known[c] ? 0 : 1;
            }
            int orders = left == 4 ? 6 : left == 3 ? 2 : 1;
            for (int c = 0; c < 4; c++) {
                if (known[c]) {
                    continue;
                }
                boolean[] more = known.clone();
                more[c] = true;
                sum += c == column ? orders * (told(more, cells) - told(known, cells)) : share(column, more, cells);
            }
            return sum;
        }
    }

    private static int wrong = 0;
    private static long compared = 0;

    private static void same(String call, long got, long want) {
        compared++;
        if (got != want) {
            wrong++;
            if (wrong < 50) {
                System.out.println(call + " answered " + got + ", the model " + want);
            }
        }
    }

    private static int between(Random random, int low, int high) {
        return low + random.nextInt(high - low + 1);
    }

    private static void someSettings(Random random, BoostForests x, Model m) {
        int[][] picks = {{1, 2, 3, 4}, {1, 1, 2, 3, 20}, {0, 1, 5, 1000}, {256, 256, 128, 77, 1}, {0, 1, 4, 6, 12},
            {0, 0, 1000, 1000000}, {256, 256, 200, 128, 20, 1}, {256, 256, 150, 1}, {0, 1, 2, 3, 12},
            {0, 5, -100, 100}, {0, 1, -1, 123456789, Integer.MIN_VALUE, Integer.MAX_VALUE},
            {0, 0, 1, -1}, {0, 0, 1, -1}, {0, 0, 1, -1}, {0, 0, 1, -1}};
        for (int what = 0; what < picks.length; what++) {
            int v = picks[what][random.nextInt(picks[what].length)];
            same("set(" + what + ", " + v + ")", x.set(what, v), m.settings[what]);
            m.settings[what] = v;
        }
    }

    private static void someRows(Random random, BoostForests x, Model m) {
        int number = between(random, 0, 40);
        int widest = new int[] {1, 3, 8, 31}[random.nextInt(4)];
        int lowest = random.nextInt(3) == 0 ? 0 : NONE;
        int aims = new int[] {1, 10, 100}[random.nextInt(3)];
        for (int i = 0; i < number; i++) {
            int[] row = new int[7];
            for (int c = 0; c < 4; c++) {
                row[c] = between(random, lowest, widest);
            }
            row[AIM] = between(random, -aims, aims);
            row[WEIGHT] = between(random, 1, 8);
            boolean room = m.rows.size() < 40;
            same("row", x.row(row[0], row[1], row[2], row[3], row[AIM], row[WEIGHT]), room ? m.rows.size() : BAD);
            if (room) {
                m.rows.add(row);
            }
        }
        int holds = random.nextInt(2) * random.nextInt(12);
        for (int k = 0; k < holds; k++) {
            int i = random.nextInt(40), v = random.nextInt(2);
            boolean there = i < m.rows.size();
            same("hold", x.hold(i, v), there ? m.rows.get(i)[HELD] : BAD);
            if (there) {
                m.rows.get(i)[HELD] = v;
            }
        }
    }

    private static void compareTrees(String run, BoostForests x, Model m) {
        same(run + "trees", x.count(2), m.trees.size());
        for (int t = 0; t < m.trees.size(); t++) {
            List<Node> tree = m.trees.get(t);
            same(run + "size(" + t + ")", x.size(t), tree.size());
            for (Node node : tree) {
                String name = run + "tree " + t + " node " + node.number + " ";
                same(name + "column", x.node(t, node.number, 0), node.column);
                same(name + "cut", x.node(t, node.number, 1), node.cut);
                same(name + "side", x.node(t, node.number, 2), node.side);
                same(name + "left", x.node(t, node.number, 3), node.left == null ? NONE : node.left.number);
                same(name + "rows", x.node(t, node.number, 4), node.rows.size());
                same(name + "H", x.node(t, node.number, 5), m.h(node.rows));
                same(name + "depth", x.node(t, node.number, 6), node.depth);
                same(name + "G", x.sum(t, node.number, 0), m.values.get(node)[0]);
                same(name + "VALUE", x.sum(t, node.number, 1), m.values.get(node)[1]);
                same(name + "difference", x.sum(t, node.number, 2), node.difference);
            }
        }
        same(run + "size of none", x.size(m.trees.size()), BAD);
    }

    private static void compareRows(String run, BoostForests x, Model m) {
        same(run + "count(3)", x.count(3), m.trained.size());
        same(run + "best()", x.best(), m.best());
        for (int n = 0; n <= m.trees.size(); n++) {
            same(run + "loss(" + n + ", 0)", x.loss(n, 0), m.loss(n, 0));
            same(run + "loss(" + n + ", 1)", x.loss(n, 1), m.loss(n, 1));
        }
        for (int i = 0; i < m.trained.size(); i++) {
            same(run + "took(" + i + ")", x.took(i), m.took(i));
            same(run + "without(" + i + ")", x.without(i), m.without(i));
        }
        same(run + "took of none", x.took(m.trained.size()), BAD);
        for (int c = 0; c < 4; c++) {
            same(run + "gain(" + c + ")", x.gain(c), m.gain(c));
        }
    }

    private static void compareAnswers(String run, Random random, BoostForests x, Model m) {
        for (int k = 0; k < 6; k++) {
            int[] q = new int[4];
            for (int c = 0; c < 4; c++) {
                q[c] = between(random, NONE, random.nextBoolean() ? 31 : 4);
            }
            for (int n = 0; n <= m.trees.size(); n++) {
                same(run + "answer(" + n + ")", x.answer(n, q[0], q[1], q[2], q[3]), m.answer(n, q));
            }
            for (int t = 0; t < m.trees.size(); t++) {
                same(run + "leaf(" + t + ")", x.leaf(t, q[0], q[1], q[2], q[3]),
                    m.leaf(m.trees.get(t).get(0), q).number);
            }
            for (int mask = 0; mask < 16; mask++) {
                boolean[] known = {(mask & 1) != 0, (mask & 2) != 0, (mask & 4) != 0, (mask & 8) != 0};
                same(run + "told(" + mask + ")", x.told(mask, q[0], q[1], q[2], q[3]), m.told(known, q));
            }
            long all = 0;
            for (int c = 0; c < 4; c++) {
                long share = x.share(c, q[0], q[1], q[2], q[3]);
                all += share;
                same(run + "share(" + c + ")", share, m.share(c, new boolean[4], q));
            }
            same(run + "all shares", all,
                24 * (x.told(15, q[0], q[1], q[2], q[3]) - x.told(0, q[0], q[1], q[2], q[3])));
        }
    }

    private static void oneRun(int number) {
        Random random = new Random(number);
        BoostForests x = new BoostForests();
        Model m = new Model();
        for (int k = 0; k < 3; k++) {
            String run = "run " + number + "." + k + " ";
            someSettings(random, x, m);
            someRows(random, x, m);
            same(run + "train()", x.train(), m.train());
            if (m.trained != null) {
                compareTrees(run, x, m);
                // What is told stays as it was, whatever becomes of rows and settings.
                if (random.nextBoolean()) {
                    same(run + "clear()", x.clear(), m.rows.size());
                    m.rows.clear();
                    someSettings(random, x, m);
                    someRows(random, x, m);
                }
                compareRows(run, x, m);
                compareAnswers(run, random, x, m);
            }
        }
    }

    public static void main(String[] args) {
        for (int number = 0; number < RUNS; number++) {
            oneRun(number);
        }
        System.out.println(compared + " answers compared, " + wrong + " of them wrong");
        if (wrong != 0) {
            System.exit(1);
        }
    }
}
