import java.util.Arrays;
import java.util.Random;

/** Promises 26 to 31: told shares, and fair shares laid into a list. */
public final class SharesTest {
    public static void main(String[] args) {
        goodOrNot();
        grudges();
        order();
        better();
        judged();
        laid();
        complaints();
        atRandom();
        Check.end("SharesTest");
    }

    private static void goodOrNot() {
        GrudgeDesk x = Check.desk(3, 0, 0, 30, 0, 40, 50, 60);
        Check.row(x, 0, 1, 10, 20, 30, 2, 21, 39, 60, 9, 9, 9, 9);
        Check.due("in the core", x.shares(0, 0), 2);
        Check.due("good, with a grudge", x.shares(0, 4), 1);
        Check.due("not good", x.shares(0, 8), 0);
        x.worth(1, 10);
        Check.due("grudge 0 is not above 0", x.shares(0, 0), 2);
        x.worth(1, 11);
        Check.due("grudge 1 is", x.shares(0, 0), 1);
        x = Check.desk(2, 0, 0, -3);
        Check.row(x, 1, 1000, -1000000, 997000);
        Check.due("at the edges", x.shares(1, 0), 1);
        Check.row(x, 1, 1, -1, -1);
        Check.due("together too much", x.shares(1, 0), 0);
        x.worth(3, -2);
        x.worth(1, -1);
        x.worth(2, -1);
        Check.due("shares below 0, no grudge", x.shares(1, 0), 2);
    }

    private static void grudges() {
        GrudgeDesk x = Check.desk(3, 1, 2, 3, 4, 5, 6, 7);
        Check.row(x, 3, 7, 4, 1, 2, -3);
        Check.fraction("grudgeBy a", x.grudgeBy(3, 1, 1, 0), x.grudgeBy(3, 1, 1, 1), 3, 4);
        Check.fraction("grudgeBy b", x.grudgeBy(3, 1, 2, 0), x.grudgeBy(3, 1, 2, 1), 3, 2);
        Check.fraction("grudgeBy bc", x.grudgeBy(3, 1, 6, 0), x.grudgeBy(3, 1, 6, 1), 25, 4);
        Check.row(x, 3, 1, 1000000, -1000000, 1000000);
        Check.fraction("grudgeBy at the edge", x.grudgeBy(3, 0, 5, 0), x.grudgeBy(3, 0, 5, 1), -1999995, 1);
        Check.fraction("grudgeBy b at the edge", x.grudgeBy(3, 0, 2, 0), x.grudgeBy(3, 0, 2, 1), 1000002, 1);
        Check.row(x, 3, 5, 5, 10, 1);
        Check.fraction("grudgeBy 0", x.grudgeBy(3, 0, 1, 0), x.grudgeBy(3, 0, 1, 1), 0, 1);
        int[] wrong = {0, 7, 8, -1, Integer.MIN_VALUE, Integer.MAX_VALUE};
        for (int g : wrong) {
            Check.due("grudgeBy no part " + g, x.grudgeBy(3, 0, g, 0), Check.NO);
        }
        Check.due("grudgeBy part 2", x.grudgeBy(3, 0, 1, 2), Check.NO);
        Check.due("grudgeBy part -1", x.grudgeBy(3, 0, 1, -1), Check.NO);
    }

    private static void order() {
        GrudgeDesk x = Check.desk(3, 1, 2, 3, 4, 5, 6, 7);
        Check.row(x, 0, 2, 1, 5, 8);
        // twice the grudges: 1, -1, 0, 0, 1, -1
        int[] want = {1, 5, 3, 4, 2, 6};
        for (int k = 0; k < 6; k++) {
            Check.due("orderedBy " + k, x.orderedBy(0, 0, k), want[k]);
        }
        Check.due("orderedBy 6", x.orderedBy(0, 0, 6), Check.NONE);
        Check.due("orderedBy -1", x.orderedBy(0, 0, -1), Check.NONE);
        Check.due("BEYOND ahead of k", x.orderedBy(0, 1, 99), Check.BEYOND);
        Check.row(x, 0, 0, 1, 5, 8);
        Check.due("BAD ahead of k", x.orderedBy(0, 0, 99), Check.BAD);
        Check.due("NONE of k at the greatest int", x.orderedBy(0, 0, Integer.MAX_VALUE), Check.BAD);
    }

    private static void better() {
        GrudgeDesk x = Check.desk(2, 5, -3, 9);
        Check.row(x, 0, 1, 9, 0);
        Check.row(x, 1, 2, 17, 1, 4, 34, 2);
        Check.due("worse", x.better(0, 0, 1, 0), 2);
        Check.due("better", x.better(1, 0, 0, 0), 1);
        Check.due("alike in other terms", x.better(1, 0, 1, 3), 0);
        Check.row(x, 2, 1, 7, -1);
        // grudges -4, -3 by list 0; -2, -2 by list 2
        Check.due("shares need not be good", x.better(2, 0, 0, 0), 2);
        Check.row(x, 2, 1, 8, 1);
        Check.row(x, 3, 1, 9, 0);
        // -3, -4 against -4, -3: the same in order
        Check.due("alike in order", x.better(2, 0, 3, 0), 0);
        Check.row(x, 2, 1, 8, 2);
        Check.due("the second one tells", x.better(2, 0, 3, 0), 1);
        Check.due("the second one tells, turned", x.better(3, 0, 2, 0), 2);
    }

    private static void judged() {
        GrudgeDesk x = Check.desk(4, 0, 0, 9, 0, 12, 7, 21, 0, 5, 14, 18, 11, 20, 26, 40);
        Check.row(x, 0, 1, 7, 11, 12, 10);
        Check.due("fair", x.judge(0, 0), -5);
        Check.row(x, 0, 1, 7, 11, 12, 11);
        Check.due("not good", x.judge(0, 0), 0);
        Check.row(x, 0, 1, 8, 11, 12, 9);
        Check.due("the first stage", x.judge(0, 0), 1);
        // the first stage fixes a, ac, bd and bcd: b and d may still change places in part
        Check.row(x, 0, 1, 7, 12, 12, 9);
        Check.due("the second stage", x.judge(0, 0), 2);
        Check.row(x, 0, 2, 14, 22, 24, 20);
        Check.due("fair in other terms", x.judge(0, 0), -5);
        x = Check.desk(3, 0, 0, 0, 0, 0, 10, 10);
        Check.row(x, 0, 1, 0, 5, 5, 1, 0, 4, 6, 1, 1, 4, 5);
        Check.due("fair of b and c", x.judge(0, 0), -5);
        Check.due("unfair of b and c", x.judge(0, 4), 2);
        Check.due("unfair of a", x.judge(0, 8), 1);
    }

    private static void laid() {
        GrudgeDesk x = Check.desk(3, 0, 0, 30, 0, 40, 50, 50);
        Check.row(x, 0, 7, 7, 7, 7, 7, 7);
        Check.due("lay", x.lay(0, 1), 4);
        long[] want = {7, 3, 20, 50, 80, 7};
        for (int i = 0; i < 6; i++) {
            Check.due("laid", x.get(0, i), want[i]);
        }
        Check.due("laid to the end", x.lay(0, 2), 4);
        Check.due("laid is fair", x.judge(0, 2), -5);
        Check.row(x, 0, 7, 7, 7);
        Check.due("some have no place", x.lay(0, 1), Check.BEYOND);
        Check.due("place 0", x.get(0, 0), 7);
        Check.due("place 1", x.get(0, 1), 3);
        Check.due("place 2", x.get(0, 2), 20);
        int[] beyond = {-1, 3, 4, 30, Integer.MIN_VALUE, Integer.MAX_VALUE, Integer.MAX_VALUE - 1};
        for (int i : beyond) {
            Check.row(x, 0, 7, 7, 7);
            Check.due("lay(0, " + i + ")", x.lay(0, i), Check.BEYOND);
            for (int k = 0; k < 3; k++) {
                Check.due("nothing laid", x.get(0, k), 7);
            }
        }
        x.list(0, 0);
        Check.due("lay into an empty row", x.lay(0, 0), Check.BEYOND);
        Check.due("lay into no row", x.lay(1, 0), Check.NOTHING);
        Check.due("NOTHING ahead of BEYOND", x.lay(1, -1), Check.NOTHING);
        Check.due("lay into no list", x.lay(4, -1), Check.NONE);
        Check.due("lay into list -1", x.lay(-1, 0), Check.NONE);
        x.worth(7, 51);
        x.list(0, 30);
        Check.due("lay at 26", x.lay(0, 26), 4);
        Check.due("whole numbers: D is 1", x.get(0, 26), 1);
        Check.due("lay at 27", x.lay(0, 27), Check.BEYOND);
        for (int n = 2; n <= 4; n++) {
            x.people(n);
            Check.due("lay for " + n, x.lay(0, 0), n + 1);
        }
    }

    private static void complaints() {
        GrudgeDesk x = new GrudgeDesk();
        int[] none = {-1, 4, Integer.MIN_VALUE, Integer.MAX_VALUE};
        for (int list : none) {
            complains(x, list, -1, Check.NONE);
        }
        complains(x, 0, -1, Check.NOTHING);
        Check.row(x, 0, 1, 0, 0, 0, 9);
        int[] beyond = {-1, 2, 3, 5, 99, Integer.MIN_VALUE, Integer.MAX_VALUE};
        for (int i : beyond) {
            complains(x, 0, i, Check.BEYOND);
        }
        Check.due("the last place", x.shares(0, 1), Check.BAD);
        x.list(0, 0);
        complains(x, 0, 0, Check.BEYOND);
        long[] downs = {0, -1, 1001, Long.MIN_VALUE, Long.MAX_VALUE, 1L << 32 | 1};
        for (long d : downs) {
            Check.row(x, 0, d, 0, 0, 0);
            complains(x, 0, 0, Check.BAD);
        }
        long[] tops = {1000001, -1000001, Long.MIN_VALUE, Long.MAX_VALUE, 1L << 32};
        for (long top : tops) {
            for (int p = 1; p <= 3; p++) {
                Check.row(x, 0, 1, 0, 0, 0);
                x.set(0, p, top);
                complains(x, 0, 0, Check.BAD);
            }
        }
        Check.row(x, 0, 1, 0, 0, 0, 1, 0, 0, 2000000);
        Check.due("a number behind them is no matter", x.shares(0, 0), 2);
        x.people(4);
        Check.due("four need five places", x.shares(0, 3), Check.BAD);
        Check.due("four at the end", x.shares(0, 4), Check.BEYOND);
        x.people(2);
        Check.due("two need three places", x.shares(0, 4), 2);
        betterComplains();
    }

    private static void complains(GrudgeDesk x, int list, int i, int want) {
        String at = "(" + list + ", " + i + ")";
        Check.due("shares" + at, x.shares(list, i), want);
        Check.due("orderedBy" + at, x.orderedBy(list, i, 0), want);
        Check.due("judge" + at, x.judge(list, i), want);
        Check.due("better" + at, x.better(list, i, list, i), want);
        Check.due("grudgeBy" + at, x.grudgeBy(list, i, 1, 0), Check.NO);
    }

    /** What is wrong with the one is told ahead of what is wrong with the other. */
    private static void betterComplains() {
        GrudgeDesk x = Check.desk(2, 1, 2, 3);
        Check.row(x, 0, 1, 1, 2);
        Check.row(x, 1, 0, 1, 2);
        Check.due("other none", x.better(0, 0, 4, 0), Check.NONE);
        Check.due("other nothing", x.better(0, 0, 2, 0), Check.NOTHING);
        Check.due("other beyond", x.better(0, 0, 1, 1), Check.BEYOND);
        Check.due("other bad", x.better(0, 0, 1, 0), Check.BAD);
        Check.due("bad, other none", x.better(1, 0, 4, 0), Check.BAD);
        Check.due("beyond, other nothing", x.better(1, 1, 2, 0), Check.BEYOND);
        Check.due("nothing, other none", x.better(3, 0, 4, 0), Check.NOTHING);
        Check.due("none, other bad", x.better(-1, 0, 1, 0), Check.NONE);
    }

    private static void atRandom() {
        Random random = new Random(29);
        for (int turn = 0; turn < 2000; turn++) {
            int n = 2 + turn % 3;
            int all = (1 << n) - 1;
            GrudgeDesk x = Check.desk(n);
            int[] v = new int[all + 1];
            for (int g = 1; g <= all; g++) {
                v[g] = random.nextInt(7) - 3;
                x.worth(g, v[g]);
            }
            double[][] grudges = new double[2][all - 1];
            for (int list = 0; list < 2; list++) {
                long[] told = new long[n + 1];
                told[0] = 1 << random.nextInt(3);
                for (int p = 1; p <= n; p++) {
                    told[p] = random.nextInt(9) - 4;
                }
                Check.row(x, list, told);
                grudgesOf(told, v, grudges[list]);
                inOrder(x, list, grudges[list]);
            }
            int want = 0;
            for (int k = all - 2; k >= 0 && want == 0; k--) {
                want = grudges[0][k] < grudges[1][k] ? 1 : grudges[0][k] > grudges[1][k] ? 2 : 0;
            }
            Check.due("better at random", x.better(0, 0, 1, 0), want);
        }
    }

    /** Fourths are exact as doubles. */
    private static void grudgesOf(long[] told, int[] v, double[] into) {
        for (int g = 1; g <= into.length; g++) {
            double grudge = v[g];
            for (int p = 1; p < told.length; p++) {
                grudge -= (g >> p - 1 & 1) == 1 ? (double) told[p] / told[0] : 0;
            }
            into[g - 1] = grudge;
        }
    }

    /** Leaves the grudges sorted, the least first. */
    private static void inOrder(GrudgeDesk x, int list, double[] grudges) {
        Integer[] order = new Integer[grudges.length];
        Arrays.setAll(order, k -> k + 1);
        Arrays.sort(order, (g, h) -> Double.compare(grudges[h - 1], grudges[g - 1]));
        for (int k = 0; k < order.length; k++) {
            Check.due("orderedBy at random", x.orderedBy(list, 0, k), order[k]);
        }
        Arrays.sort(grudges);
    }
}
