/** Promises 32 to 34: proof, proves, tilts. */
public final class WeightsTest {
    public static void main(String[] args) {
        threePeople();
        twoAndFour();
        tilted();
        complaints();
        leastCollections();
        Check.end("WeightsTest");
    }

    private static void threePeople() {
        GrudgeDesk x = Check.desk(3, 0, 0, 30, 0, 40, 50, 50);
        Check.row(x, 1, 0, 0, 1, 0, 1, 1);
        Check.due("pairs balance", x.tilts(1, 0), -5);
        Check.fraction("pairs prove", x.proof(1, 0, 0), x.proof(1, 0, 1), 20, 3);
        Check.due("pairs prove level 1", x.proves(1, 0), 1);
        Check.row(x, 1, 9, 0, 0, 1000, 0, 1000, 1000);
        Check.fraction("a thousand times the same", x.proof(1, 1, 0), x.proof(1, 1, 1), 20, 3);
        Check.due("that is level 1, too", x.proves(1, 1), 1);
        Check.row(x, 1, 1, 0, 0, 0, 0, 1);
        Check.fraction("a and bc", x.proof(1, 0, 0), x.proof(1, 0, 1), 0, 1);
        Check.due("a and bc do not prove it", x.proves(1, 0), 0);
        Check.row(x, 1, 1, 1, 0, 1, 0, 0);
        Check.fraction("each alone", x.proof(1, 0, 0), x.proof(1, 0, 1), -50, 3);
        Check.row(x, 1, 2, 1, 1, 1, 0, 1);
        // a: 2 + 1 = 3, b: 1 + 1 + 1 = 3, c: 1 + 1 = 2
        Check.due("c tilts", x.tilts(1, 0), 2);
        Check.row(x, 1, 2, 1, 0, 1, 0, 1);
        Check.due("two ways of balance at once", x.tilts(1, 0), -5);
        Check.fraction("what they prove", x.proof(1, 0, 0), x.proof(1, 0, 1), -10, 1);
    }

    private static void twoAndFour() {
        GrudgeDesk x = Check.desk(2, 5, -3, 9);
        Check.row(x, 0, 3, 3);
        Check.due("two balance", x.tilts(0, 0), -5);
        Check.fraction("two prove", x.proof(0, 0, 0), x.proof(0, 0, 1), -7, 2);
        Check.due("two prove level 1", x.proves(0, 0), 1);
        Check.row(x, 0, 3, 2);
        Check.due("b tilts", x.tilts(0, 0), 1);
        x = Check.desk(4, 0, 0, 9, 0, 12, 7, 21, 0, 5, 14, 18, 11, 20, 26, 40);
        Check.row(x, 0, 1, 0, 0, 0, 0, 0, 0, 0, 0, 0, 0, 0, 0, 1);
        Check.fraction("a and bcd", x.proof(0, 0, 0), x.proof(0, 0, 1), -7, 1);
        Check.due("a and bcd prove level 1", x.proves(0, 0), 1);
        Check.row(x, 0, 0, 0, 0, 0, 0, 0, 2, 0, 1, 1, 0, 1, 0, 0);
        Check.due("weights 2, 1, 1, 1", x.tilts(0, 0), -5);
        Check.fraction("they prove", x.proof(0, 0, 0), x.proof(0, 0, 1), -48, 5);
        Check.due("less than level 1", x.proves(0, 0), 0);
        x.set(0, 8, 0);
        x.set(0, 0, 1);
        Check.due("d tilts", x.tilts(0, 0), 3);
    }

    private static void tilted() {
        GrudgeDesk x = new GrudgeDesk();
        Check.row(x, 0, 0, 0, 0, 0, 0, 0);
        Check.due("all are 0", x.tilts(0, 0), 9);
        Check.due("all 0 prove nothing", x.proves(0, 0), 0);
        Check.due("all 0: no proof", x.proof(0, 0, 0), Check.NO);
        Check.due("all 0: no proof below", x.proof(0, 0, 1), Check.NO);
        Check.row(x, 0, 0, 1, 0, 0, 0, 0);
        Check.due("b tilts", x.tilts(0, 0), 1);
        Check.due("b tilts: proves", x.proves(0, 0), 0);
        Check.due("b tilts: proof", x.proof(0, 0, 0), Check.NO);
        Check.row(x, 0, 1, 0, 0, 0, 0, 0);
        Check.due("a alone: b is the first", x.tilts(0, 0), 1);
        Check.row(x, 0, 0, 0, 1, 0, 0, 0);
        Check.due("ab alone: c is the first", x.tilts(0, 0), 2);
    }

    /** Each least balanced collection in its turn is made the one that decides level 1 and the cost. */
    private static void leastCollections() {
        int[] counts = {1, 5, 41};
        for (int n = 2; n <= 4; n++) {
            int all = (1 << n) - 1;
            int found = 0;
            // supports in order of size, so that a lesser one within is known when it matters
            boolean[] balanced = new boolean[1 << all];
            for (int size = 2; size <= n; size++) {
                for (int set = 2; set < 1 << all; set += 2) {
                    long[] weights = Integer.bitCount(set) == size ? balance(set, all, balanced) : null;
                    if (weights != null) {
                        balanced[set] = true;
                        found++;
                        decides(n, set, weights);
                    }
                }
            }
            Check.due("least collections of " + n, found, counts[n - 2]);
        }
    }

    /** Weights 1 to 2 are enough for four people; null, if none balance or a lesser collection does. */
    private static long[] balance(int set, int all, boolean[] balanced) {
        for (int within = (set - 1) & set; within > 0; within = (within - 1) & set) {
            if (balanced[within]) {
                return null;
            }
        }
        int size = Integer.bitCount(set);
        for (int choice = 0; choice < 1 << size; choice++) {
            long[] weights = new long[all - 1];
            int[] sums = new int[4];
            int k = 0;
            for (int g = 1; g < all; g++) {
                if ((set >> g & 1) == 1) {
                    weights[g - 1] = 1 + (choice >> k++ & 1);
                    for (int p = 0; p < 4; p++) {
                        sums[p] += (g >> p & 1) * (int) weights[g - 1];
                    }
                }
            }
            if (sums[1] == sums[0] && (all < 7 || sums[2] == sums[0]) && (all < 15 || sums[3] == sums[0])) {
                return weights;
            }
        }
        return null;
    }

    private static void decides(int n, int set, long[] weights) {
        GrudgeDesk x = Check.desk(n);
        int all = (1 << n) - 1;
        long top = 0;
        long total = 0;
        long c = 0;
        for (int g = 1; g < all; g++) {
            x.worth(g, (set >> g & 1) == 1 ? 60 + g : -900);
            top += weights[g - 1] * (60 + g);
            total += weights[g - 1];
            c += (g & 1) * weights[g - 1];
        }
        x.worth(all, 7);
        Check.row(x, 0, weights);
        String what = "collection " + set + " of " + n;
        Check.due(what + " balances", x.tilts(0, 0), -5);
        Check.due(what + " proves level 1", x.proves(0, 0), 1);
        Check.due(what + " is fixed", x.fixed(1), set);
        Check.due(what + ": level 1", x.level(1, 0) * total, (top - 7 * c) * x.level(1, 1));
        Check.due(what + ": cost", x.cost(0) * c, top * x.cost(1));
    }

    private static void complaints() {
        GrudgeDesk x = new GrudgeDesk();
        int[] none = {-1, 4, Integer.MIN_VALUE, Integer.MAX_VALUE};
        for (int list : none) {
            complains(x, list, 0, Check.NONE);
        }
        complains(x, 2, -1, Check.NOTHING);
        Check.row(x, 2, 5000, 1, 1, 1, 1, 1, 1);
        int[] beyond = {-1, 2, 7, Integer.MIN_VALUE, Integer.MAX_VALUE};
        for (int i : beyond) {
            complains(x, 2, i, Check.BEYOND);
        }
        complains(x, 2, 0, Check.BAD);
        Check.due("from 1 on they are fine", x.tilts(2, 1), -5);
        long[] bad = {-1, 1001, Long.MIN_VALUE, Long.MAX_VALUE, 1L << 32};
        for (long weight : bad) {
            for (int k = 0; k < 6; k++) {
                Check.row(x, 2, 1, 1, 1, 1, 1, 1);
                x.set(2, k, weight);
                complains(x, 2, 0, Check.BAD);
            }
        }
        Check.row(x, 2, 1000, 1000, 1000, 1000, 1000, 1000);
        Check.fraction("all the most", x.proof(2, 0, 0), x.proof(2, 0, 1), 0, 1);
        Check.due("part 2", x.proof(2, 0, 2), Check.NO);
        Check.due("part -1", x.proof(2, 0, -1), Check.NO);
        x.people(4);
        complains(x, 2, 0, Check.BEYOND);
        x.list(2, 30);
        Check.due("fourteen at the end", x.tilts(2, 16), 9);
        complains(x, 2, 17, Check.BEYOND);
        x.people(2);
        Check.due("two at the end", x.tilts(2, 28), 9);
        complains(x, 2, 29, Check.BEYOND);
    }

    private static void complains(GrudgeDesk x, int list, int i, int want) {
        String at = "(" + list + ", " + i + ")";
        Check.due("tilts" + at, x.tilts(list, i), want);
        Check.due("proves" + at, x.proves(list, i), want);
        Check.due("proof" + at, x.proof(list, i, 0), Check.NO);
    }
}
