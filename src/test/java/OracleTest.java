import java.util.Arrays;
import java.util.Random;

/** Promises 9 to 21 at random worths, held against what the document says, worked out another way. */
public final class OracleTest {
    private static final Random RANDOM = new Random(20261118);

    public static void main(String[] args) {
        for (int turn = 0; turn < 60; turn++) {
            holdAgainst(2, reach(turn));
        }
        for (int turn = 0; turn < 400; turn++) {
            holdAgainst(3, reach(turn));
        }
        int most = args.length > 0 ? Integer.parseInt(args[0]) : 400;
        for (int turn = 0; turn < most; turn++) {
            holdAgainst(4, reach(turn));
        }
        Check.end("OracleTest");
    }

    /** Few unlike worths make many like grudges, many make long fractions. */
    private static int reach(int turn) {
        int[] reaches = {1, 2, 5, 30, 999};
        return reaches[turn % reaches.length];
    }

    private static void holdAgainst(int n, int reach) {
        int[] v = new int[1 << n];
        for (int g = 1; g < v.length; g++) {
            v[g] = RANDOM.nextInt(2 * reach + 1) - reach;
        }
        holdAgainst(n, v);
    }

    /** By the groups' bits; nobody's stays 0. */
    static void holdAgainst(int n, int[] v) {
        int all = (1 << n) - 1;
        GrudgeDesk x = Check.desk(n, Arrays.copyOfRange(v, 1, v.length));
        Oracle oracle = new Oracle(n, v).solve();
        String what = Arrays.toString(v);
        stages(what, x, oracle);
        shares(what, x, oracle);
        turns(what, x, oracle);
        Ratio cost = oracle.cost();
        ratio(what + " cost", x.cost(0), x.cost(1), cost);
        Check.due(what + " empty", x.empty(), oracle.levels.get(0).compareTo(Ratio.ZERO) > 0 ? 1 : 0);
        Check.due(what + " empty by cost", x.empty(), cost.compareTo(Ratio.of(v[all])) > 0 ? 1 : 0);
        whatIf(what, x, v, n);
    }

    private static void ratio(String what, long top, long bottom, Ratio want) {
        Check.fraction(what, top, bottom, want.above(), want.below());
    }

    private static void stages(String what, GrudgeDesk x, Oracle oracle) {
        Check.due(what + " stages", x.stages(), oracle.levels.size());
        for (int k = 1; k <= oracle.levels.size(); k++) {
            ratio(what + " level " + k, x.level(k, 0), x.level(k, 1), oracle.levels.get(k - 1));
            Check.due(what + " fixed " + k, x.fixed(k), oracle.fixes.get(k - 1));
            for (int g = 1; g < oracle.all; g++) {
                if ((oracle.fixes.get(k - 1) >> g & 1) == 1) {
                    Check.due(what + " stageOf " + g, x.stageOf(g), k);
                }
            }
        }
    }

    private static void shares(String what, GrudgeDesk x, Oracle oracle) {
        for (int p = 0; p < oracle.n; p++) {
            ratio(what + " fair " + p, x.fair(p, 0), x.fair(p, 1), oracle.fair[p]);
        }
        x.list(0, oracle.n + 1);
        Check.due(what + " lay", x.lay(0, 0), oracle.n + 1);
        long least = Ratio.commonBelow(oracle.fair);
        Check.due(what + " least D", x.get(0, 0), least);
        for (int p = 0; p < oracle.n; p++) {
            Ratio share = oracle.fair[p];
            Check.due(what + " laid " + p, x.get(0, p + 1), share.above() * (least / share.below()));
        }
        Integer[] order = new Integer[oracle.all - 1];
        for (int g = 1; g < oracle.all; g++) {
            order[g - 1] = g;
            ratio(what + " grudge " + g, x.grudge(g, 0), x.grudge(g, 1), oracle.grudge(oracle.fair, g));
        }
        Arrays.sort(order, (g, h) -> oracle.grudge(oracle.fair, h).compareTo(oracle.grudge(oracle.fair, g)));
        for (int k = 0; k < order.length; k++) {
            Check.due(what + " ordered " + k, x.ordered(k), order[k]);
        }
        for (int p = 0; p < oracle.n; p++) {
            for (int q = 0; q < oracle.n; q++) {
                Ratio greatest = null;
                for (int g = 1; g < oracle.all; g++) {
                    if ((g >> p & 1) == 1 && (g >> q & 1) == 0) {
                        Ratio grudge = oracle.grudge(oracle.fair, g);
                        greatest = greatest == null || grudge.compareTo(greatest) > 0 ? grudge : greatest;
                    }
                }
                if (greatest != null) {
                    ratio(what + " surplus " + p + q, x.surplus(p, q, 0), x.surplus(p, q, 1), greatest);
                }
            }
        }
    }

    private static void turns(String what, GrudgeDesk x, Oracle oracle) {
        long[] sums = new long[oracle.n];
        int orders = allComing(new int[oracle.n], 0, 0, oracle, sums);
        for (int p = 0; p < oracle.n; p++) {
            ratio(what + " byTurns " + p, x.byTurns(p, 0), x.byTurns(p, 1), Ratio.of(sums[p], orders));
        }
    }

    /** Each order to its end, and only there what each one adds in it: how many orders there are. */
    private static int allComing(int[] order, int come, int group, Oracle oracle, long[] sums) {
        if (come == oracle.n) {
            int here = 0;
            for (int p : order) {
                sums[p] += oracle.v[here | 1 << p] - oracle.v[here];
                here |= 1 << p;
            }
            return 1;
        }
        int orders = 0;
        for (int p = 0; p < oracle.n; p++) {
            if ((group >> p & 1) == 0) {
                order[come] = p;
                orders += allComing(order, come + 1, group | 1 << p, oracle, sums);
            }
        }
        return orders;
    }

    private static void whatIf(String what, GrudgeDesk x, int[] v, int n) {
        int group = 1 + RANDOM.nextInt((1 << n) - 1);
        int to = RANDOM.nextInt(61) - 30;
        int p = RANDOM.nextInt(n);
        GrudgeDesk y = Check.desk(n, Arrays.copyOfRange(v, 1, v.length));
        y.worth(group, to);
        String call = what + " would(" + group + ", " + to + ", " + p + ")";
        Check.fraction(call, x.would(group, to, p, 0), x.would(group, to, p, 1), y.fair(p, 0), y.fair(p, 1));
        Check.due(call + " changes nothing", x.worthOf(group), v[group]);
        int g = RANDOM.nextInt(41) - 20;
        long least = Check.NO;
        for (int w = Math.min(999, v[group] + 30); w >= v[group]; w--) {
            y.worth(group, w);
            least = y.fair(p, 0) >= g * y.fair(p, 1) ? w : least;
        }
        Check.due(what + " needs(" + group + ", " + p + ", " + g + ")", x.needs(group, p, g), least);
        Check.due(what + " needs changes nothing", x.worthOf(group), v[group]);
    }
}
