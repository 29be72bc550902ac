import java.math.BigInteger;
import java.util.ArrayList;
import java.util.List;

/** Sums and products beyond 32 bits, and beyond 64: worked out with whole numbers of any size, then wrapped. */
public final class BoundaryWrapTests {
    private static final int NONE = -1, LEFT = 0;
    private static final int ROUNDS = 12, ROWS_SHARE = 68, COLUMNS_SHARE = 227, SEED = -374814846;
    private static final int[] SETTINGS =
        {4, 1, 0, 256, ROUNDS, 0, ROWS_SHARE, COLUMNS_SHARE, 0, 57, SEED, 1, -1, 1, 1};
    private static final int AIM = 4, WEIGHT = 5;

    /**
     * Found by a search: few rows are drawn, so that each tree throws the others further off, until the square of
     * the last root's G is above 2 to the power of 63. The last row is HELD.
     *
     * LOSS has no such test, for it can't run over: what the rows are off lies, with 0, within 51200 at first, and
     * within at most twice as much behind each round; so LOSS is at most 320 * (51200 * 2048)^2, below 2 to the 62nd.
     */
    private static final int[][] ROWS = {
        {13, 21, 9, 6, 96, 1}, {18, 13, 23, 25, -98, 8}, {22, 31, 6, 7, 94, 1}, {30, 25, 31, 23, -100, 8},
        {0, 31, -1, 23, 91, 8}, {15, 2, 7, 29, -96, 8}, {-1, 28, 2, 14, 52, 7}, {29, 31, 8, 4, 40, 7},
        {19, 6, 18, 10, -93, 6}, {28, 5, 13, 29, -13, 8}, {13, 26, 4, 10, 51, 8}, {27, 22, 15, 27, 100, 8},
        {2, 6, 30, 11, 41, 8}, {28, 13, 9, 5, -100, 6}, {23, 7, 0, 31, 93, 1}, {27, 15, 28, 15, -82, 8},
        {29, 11, 25, 0, 99, 8}, {8, 24, 8, -1, 2, 3}, {-1, 10, 17, 31, 63, 8}, {28, 3, 10, 20, -78, 8},
        {27, 5, 2, 23, -97, 3}, {14, 25, 16, 6, 93, 2}, {15, -1, 28, 25, -12, 8}, {3, 8, 22, 31, 41, 2}};
    private static final int LAST = ROUNDS - 1, HELD_ROW = ROWS.length - 1;

    private static final Sentences doc = new Sentences();

    public static void main(String[] args) {
        beyond32Bits();
        differenceBeyond32Bits();
        slopesFarOff();
        squareBeyond64Bits();
        splitByWrappedWorths();
        gainOfWrappedWorths();
        doc.end(6, 8, 12, 16);
    }

    private static BoostForests farOff() {
        BoostForests x = new BoostForests();
        for (int s = 0; s < SETTINGS.length; s++) {
            x.set(s, SETTINGS[s]);
        }
        for (int[] row : ROWS) {
            x.row(row[0], row[1], row[2], row[3], row[AIM], row[WEIGHT]);
        }
        x.hold(HELD_ROW, 1);
        x.train();
        return x;
    }

    private static void beyond32Bits() {
        doc.says(12, "LOSS: the sum of w (F - 256 y)^2.");
        BoostForests x = new BoostForests();
        x.set(9, 100);
        x.set(4, 1);
        x.set(2, 0);
        for (int i = 0; i < 40; i++) {
            x.row(0, 0, 0, 0, -100, 8);
        }
        x.train();
        doc.due("G of 40 rows, as far off as may be at first", x.sum(0, 0, 0), 40L * 8 * 51200);
        doc.due("H", x.node(0, 0, 5), 320);
        doc.due("VALUE", x.sum(0, 0, 1), -51200);
        doc.due("loss(0, 0)", x.loss(0, 0), 838860800000L);
        doc.due("loss(1, 0)", x.loss(1, 0), 0);
        for (int i = 1; i < 40; i++) {
            x.hold(i, 1);
        }
        x.train();
        doc.due("loss(0, 1)", x.loss(0, 1), 39L * 8 * 51200 * 51200);
    }

    private static void differenceBeyond32Bits() {
        doc.says(8, "2 the difference of WORTHS of its SPLIT (0 of a LEAF).");
        BoostForests x = new BoostForests();
        x.set(2, 0);
        x.set(4, 1);
        for (int i = 0; i < 40; i++) {
            x.row(i % 2, 0, 0, 0, i % 2 == 0 ? -100 : 100, 8);
        }
        x.train();
        // Both sides: (20 * 8 * 25600) squared by 160; of the ROOT 0.
        doc.due("difference", x.sum(0, 0, 2), 209715200000L);
        doc.due("gain(0)", x.gain(0), 209715200000L);
    }

    private static int drawn(int a) {
        BigInteger all = BigInteger.ONE.shiftLeft(32);
        BigInteger x = BigInteger.valueOf(SEED + 1000003L * a).mod(all);
        x = x.xor(x.shiftRight(15)).multiply(BigInteger.valueOf(0x2c1b3c6d)).mod(all);
        x = x.xor(x.shiftRight(12)).multiply(BigInteger.valueOf(0x297a2d39)).mod(all);
        return x.shiftRight(24).intValue();
    }

    private static List<Integer> rowsOfLastRoot() {
        List<Integer> rows = new ArrayList<>();
        for (int i = 0; i < HELD_ROW; i++) {
            if (drawn(64 * LAST + i) < ROWS_SHARE) {
                rows.add(i);
            }
        }
        return rows;
    }

    /** F - 256 y of each row behind the first n trees; of an object of its own, for one may have 512 calls alone. */
    private static BigInteger[] offsBehind(int n) {
        BoostForests x = farOff();
        BigInteger[] offs = new BigInteger[ROWS.length];
        for (int i = 0; i < ROWS.length; i++) {
            int[] row = ROWS[i];
            offs[i] = BigInteger.valueOf(x.answer(n, row[0], row[1], row[2], row[3]) - 256L * row[AIM]);
        }
        return offs;
    }

    private static BigInteger slopes(BigInteger[] offs, List<Integer> rows) {
        BigInteger sum = BigInteger.ZERO;
        for (int i : rows) {
            sum = sum.add(offs[i].multiply(BigInteger.valueOf(ROWS[i][WEIGHT])));
        }
        return sum;
    }

    private static long weights(List<Integer> rows) {
        long sum = 0;
        for (int i : rows) {
            sum += ROWS[i][WEIGHT];
        }
        return sum;
    }

    private static long worth(BigInteger g, long h) {
        return h == 0 ? 0 : BigInteger.valueOf(g.multiply(g).longValue()).divide(BigInteger.valueOf(h)).longValue();
    }

    private static long value(BigInteger g, long h) {
        return h == 0 ? 0 : g.negate().divide(BigInteger.valueOf(h)).longValue();
    }

    private static void slopesFarOff() {
        doc.says(6, "G is the sum of w (F - 256 y), H of w.");
        BoostForests x = farOff();
        List<Integer> rows = rowsOfLastRoot();
        BigInteger g = slopes(offsBehind(LAST), rows);
        doc.due("rows of the last ROOT", x.node(LAST, 0, 4), rows.size());
        doc.due("H", x.node(LAST, 0, 5), weights(rows));
        doc.due("G", x.sum(LAST, 0, 0), g.longValue());
        doc.due("G, worked out once", x.sum(LAST, 0, 0), 3419002848L);
        doc.due("VALUE", x.sum(LAST, 0, 1), value(g, weights(rows)));
        for (int n = 0; n <= ROUNDS; n++) {
            BigInteger[] offs = offsBehind(n);
            doc.due("loss(" + n + ", 0)", x.loss(n, 0), lossOf(offs, 0, HELD_ROW));
            doc.due("loss(" + n + ", 1)", x.loss(n, 1), lossOf(offs, HELD_ROW, ROWS.length));
        }
    }

    private static long lossOf(BigInteger[] offs, int from, int to) {
        BigInteger sum = BigInteger.ZERO;
        for (int i = from; i < to; i++) {
            sum = sum.add(offs[i].multiply(offs[i]).multiply(BigInteger.valueOf(ROWS[i][WEIGHT])));
        }
        return sum.longValue();
    }

    private static void squareBeyond64Bits() {
        doc.says(8, "All sums and products are of 64 bits, running over.");
        BoostForests x = farOff();
        BigInteger square = BigInteger.valueOf(x.sum(LAST, 0, 0)).pow(2);
        doc.holds("the square of G runs over", square.bitLength() > 63);
        long worths = 0;
        for (int i = 1; i <= 2; i++) {
            worths += worth(BigInteger.valueOf(x.sum(LAST, i, 0)), x.node(LAST, i, 5));
        }
        long ofRoot = worth(BigInteger.valueOf(x.sum(LAST, 0, 0)), x.node(LAST, 0, 5));
        doc.holds("WORTH of the ROOT is below 0", ofRoot < 0);
        doc.due("difference", x.sum(LAST, 0, 2), worths - ofRoot);
        doc.due("difference, worked out once", x.sum(LAST, 0, 2), 192741522390166190L);
    }

    private static boolean isLeft(int cell, int cut, int side) {
        return cell == NONE ? side == LEFT : cell <= cut;
    }

    /** All that may be a SPLIT of the last ROOT, in the order in which equal ones go first. */
    private static void splitByWrappedWorths() {
        doc.says(6, "All sums and products are of 64 bits, running over.");
        BoostForests x = farOff();
        BigInteger[] offs = offsBehind(LAST);
        List<Integer> rows = rowsOfLastRoot();
        long ofRoot = worth(slopes(offs, rows), weights(rows));
        long best = 0;
        int bestColumn = NONE, bestCut = NONE, bestSide = NONE;
        for (int c = 0; c < 4; c++) {
            for (int cut = 0; cut < 31; cut++) {
                for (int side = 0; side < 2; side++) {
                    if (drawn(100000 + 4 * LAST + c) >= COLUMNS_SHARE || !isCut(rows, c, cut)) {
                        continue;
                    }
                    List<Integer> low = new ArrayList<>(), high = new ArrayList<>();
                    for (int i : rows) {
                        (isLeft(ROWS[i][c], cut, side) ? low : high).add(i);
                    }
                    BigInteger gLow = slopes(offs, low), gHigh = slopes(offs, high);
                    long hLow = weights(low), hHigh = weights(high);
                    long rise = value(gHigh, hHigh) - value(gLow, hLow);
                    long difference = worth(gLow, hLow) + worth(gHigh, hHigh) - ofRoot;
                    if (rise * SETTINGS[11 + c] >= 0 && difference > best) {
                        best = difference;
                        bestColumn = c;
                        bestCut = cut;
                        bestSide = side;
                    }
                }
            }
        }
        doc.due("column of the last ROOT", x.node(LAST, 0, 0), bestColumn);
        doc.due("its CUT", x.node(LAST, 0, 1), bestCut);
        doc.due("its side of the missing", x.node(LAST, 0, 2), bestSide);
        doc.due("its difference", x.sum(LAST, 0, 2), best);
    }

    private static boolean isCut(List<Integer> rows, int column, int cut) {
        boolean has = false, greater = false;
        for (int i : rows) {
            has |= ROWS[i][column] == cut;
            greater |= ROWS[i][column] > cut;
        }
        return has && greater;
    }

    private static void gainOfWrappedWorths() {
        doc.says(16, "The sum of all differences of WORTHS of SPLITS by a COLUMN.");
        BigInteger[] sums = {BigInteger.ZERO, BigInteger.ZERO, BigInteger.ZERO, BigInteger.ZERO};
        for (int t = 0; t < ROUNDS; t++) {
            BoostForests x = farOff();
            int nodes = x.size(t);
            for (int i = 0; i < nodes; i++) {
                int column = x.node(t, i, 0);
                if (column != NONE) {
                    sums[column] = sums[column].add(BigInteger.valueOf(x.sum(t, i, 2)));
                }
            }
        }
        BoostForests x = farOff();
        for (int c = 0; c < 4; c++) {
            doc.due("gain(" + c + ")", x.gain(c), sums[c].longValue());
        }
    }
}
