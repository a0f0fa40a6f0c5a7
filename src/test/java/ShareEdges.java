import java.util.function.Supplier;

/** Edges of promises 26 to 31: told shares, and fair shares laid into a list. */
final class ShareEdges {
    /** What shares(), orderedBy(), better() and judge() name, in their order. */
    private static final String REFUSALS =
            "NONE: list; NOTHING; BEYOND: it ends ahead of them (or the place is below 0); "
            + "BAD: a number is not as told";

    private ShareEdges() {
    }

    static void all() {
        lists();
        places();
        below();
        above();
        firstNamed();
        betterFirstNamed();
        onlyTheirPlaces();
        goodOrNot();
        grudgesBy();
        orderedBy();
        better();
        judge();
        layAllPlaces();
        layRefused();
        layLeast();
    }

    /** All calls that read told shares, and their refusal. */
    private static void refused(String what, Supplier<GrudgeDesk> made, int list, int i, int want) {
        String at = what + ": (" + list + ", " + i + ")";
        Edges.sentence(27, REFUSALS);
        Edges.unmoved("shares " + at, made, x -> x.shares(list, i), want);
        Edges.sentence(28, REFUSALS);
        Edges.unmoved("orderedBy " + at, made, x -> x.orderedBy(list, i, 0), want);
        Edges.sentence(29, REFUSALS);
        Edges.unmoved("better, the one " + at, made, x -> x.better(list, i, 2, 0), want);
        Edges.unmoved("better, the other " + at, made, x -> x.better(2, 0, list, i), want);
        Edges.sentence(30, REFUSALS);
        Edges.unmoved("judge " + at, made, x -> x.judge(list, i), want);
        Edges.sentence(26, "NO: no PART, part, or as told for shares().");
        Edges.unmoved("grudgeBy " + at, made, x -> x.grudgeBy(list, i, 1, 0), Check.NO);
        Edges.unmoved("grudgeBy below the line " + at, made, x -> x.grudgeBy(list, i, 1, 1), Check.NO);
    }

    /** No call refuses told shares that are as they should be; of a busy desk's worths. */
    private static void taken(String what, GrudgeDesk x, int list, int i) {
        Check.under("\"" + REFUSALS + "\"");
        String at = what + ": (" + list + ", " + i + ")";
        Check.holds("shares " + at, x.shares(list, i) >= 0);
        Check.holds("orderedBy " + at, x.orderedBy(list, i, 0) >= 1);
        Check.holds("better, the one " + at, x.better(list, i, 2, 0) >= 0);
        Check.holds("better, the other " + at, x.better(2, 0, list, i) >= 0);
        Check.holds("judge " + at, x.judge(list, i) >= 0 || x.judge(list, i) == -5);
        Check.holds("grudgeBy " + at, x.grudgeBy(list, i, 1, 0) != Check.NO && x.grudgeBy(list, i, 1, 1) > 0);
    }

    /** D is 1, all have 0; so many numbers. */
    private static long[] zeros(int many) {
        long[] row = new long[many];
        if (many > 0) {
            row[0] = 1;
        }
        return row;
    }

    private static void lists() {
        for (int list : Edges.outside(0, 3)) {
            refused("no list", Edges::busy, list, 0, Check.NONE);
        }
        refused("nothing there", Edges::busy, 3, 0, Check.NOTHING);
        for (int list = 0; list <= 3; list++) {
            taken("a list", Edges.busyWith(3, list, zeros(4)).get(), list, 0);
            refused("nothing at first", ShareEdges::withShares, list == 2 ? 3 : list, 0, Check.NOTHING);
        }
    }

    /** All that it has is told shares in list 2. */
    private static GrudgeDesk withShares() {
        GrudgeDesk x = new GrudgeDesk();
        Check.row(x, 2, 1, 0, 0, 0);
        return x;
    }

    private static void places() {
        refused("a row of 0", Edges::busy, 1, 0, Check.BEYOND);
        for (int n = 2; n <= 4; n++) {
            int people = n;
            taken("just room for them", Edges.busyWith(n, 0, zeros(n + 1)).get(), 0, 0);
            refused("one place too few", Edges.busyWith(n, 0, zeros(n)), 0, 0, Check.BEYOND);
            refused("one place", Edges.busyWith(n, 0, 1), 0, 0, Check.BEYOND);
            for (int i : Edges.outside(0, 0)) {
                refused("another place", Edges.busyWith(n, 0, zeros(n + 1)), 0, i, Check.BEYOND);
            }
            Supplier<GrudgeDesk> full = () -> atTheEnd(people);
            taken("the last places of a full row", full.get(), 0, 29 - n);
            for (int i : new int[] {30 - n, 29, 30, 31, -1, Integer.MAX_VALUE - n, Integer.MAX_VALUE,
                    Integer.MIN_VALUE}) {
                refused("a full row", full, 0, i, Check.BEYOND);
            }
        }
        Edges.sentence(27, "BEYOND: it ends ahead of them (or the place is below 0);");
        GrudgeDesk x = Edges.busy(2);
        Check.row(x, 0, 1, 15, 15);
        Check.due("room for two", x.shares(0, 0), 2);
        x.people(3);
        Check.due("no room for three", x.shares(0, 0), Check.BEYOND);
    }

    private static GrudgeDesk atTheEnd(int n) {
        GrudgeDesk x = Edges.busy(n);
        x.set(0, 29 - n, 1);
        return x;
    }

    private static void below() {
        Edges.sentence(Edges.TERMS, "TOLD SHARES stand in a LIST from a place on: D (1 .. 1000),");
        for (int n = 2; n <= 4; n++) {
            for (long d : new long[] {1, 2, 999, 1000}) {
                GrudgeDesk x = Edges.busyWith(n, 0, zeros(n + 1)).get();
                x.set(0, 0, d);
                taken("D " + d, x, 0, 0);
            }
            for (long d : Edges.outside(1L, 1000L)) {
                long[] row = zeros(n + 1);
                row[0] = d;
                refused("D " + d, Edges.busyWith(n, 0, row), 0, 0, Check.BAD);
            }
        }
    }

    private static void above() {
        Edges.sentence(Edges.TERMS, "then n numbers (-1000000 .. 1000000): each by D.");
        for (int n = 2; n <= 4; n++) {
            for (int p = 1; p <= n; p++) {
                for (long v : new long[] {-1000000, -999999, 999999, 1000000}) {
                    GrudgeDesk x = Edges.busyWith(n, 0, zeros(n + 1)).get();
                    x.set(0, p, v);
                    taken("number " + p + " is " + v, x, 0, 0);
                }
                for (long v : Edges.outside(-1000000L, 1000000L)) {
                    long[] row = zeros(n + 1);
                    row[p] = v;
                    refused("number " + p + " is " + v, Edges.busyWith(n, 0, row), 0, 0, Check.BAD);
                }
            }
        }
        GrudgeDesk x = Check.desk(2, 999, -999, 0);
        Check.row(x, 0, 1000, 1000000, -1000000);
        Check.fraction("by D: a", x.grudgeBy(0, 0, 1, 0), x.grudgeBy(0, 0, 1, 1), -1, 1);
        Check.fraction("by D: b", x.grudgeBy(0, 0, 2, 0), x.grudgeBy(0, 0, 2, 1), 1, 1);
        Check.row(x, 0, 1, -1000000, 1000000);
        Check.fraction("the greatest grudge", x.grudgeBy(0, 0, 1, 0), x.grudgeBy(0, 0, 1, 1), 1000999, 1);
        Check.fraction("the least grudge", x.grudgeBy(0, 0, 2, 0), x.grudgeBy(0, 0, 2, 1), -1000999, 1);
    }

    private static void firstNamed() {
        for (int list : Edges.outside(0, 3)) {
            refused("NONE ahead of BEYOND", Edges::busy, list, -1, Check.NONE);
            refused("NONE ahead of NOTHING", ShareEdges::withShares, list, 0, Check.NONE);
        }
        refused("NOTHING ahead of BEYOND", Edges::busy, 3, -1, Check.NOTHING);
        refused("NOTHING ahead of BEYOND", Edges::busy, 3, 30, Check.NOTHING);
        refused("BEYOND ahead of BAD, no D", Edges.busyWith(3, 0, 0, 0, 0), 0, 0, Check.BEYOND);
        refused("BEYOND ahead of BAD, too great", Edges.busyWith(3, 0, 1, 0, 1000001), 0, 0, Check.BEYOND);
        refused("BEYOND ahead of BAD, below 0", Edges.busyWith(3, 0, 0, 0, 0, 0), 0, -1, Check.BEYOND);
        refused("a D and a number", Edges.busyWith(3, 0, 0, 1000001, 0, 0), 0, 0, Check.BAD);
        Edges.sentence(28, "BAD: a number is not as told; NONE: k.");
        for (int k : Edges.outside(0, 5)) {
            Edges.unmoved("NOTHING ahead of k", x -> x.orderedBy(3, 0, k), Check.NOTHING);
            Edges.unmoved("BEYOND ahead of k", x -> x.orderedBy(1, 0, k), Check.BEYOND);
            Edges.unmoved("BAD ahead of k", Edges.busyWith(3, 0, 0, 0, 0, 0), x -> x.orderedBy(0, 0, k), Check.BAD);
            Edges.unmoved("NONE of both", x -> x.orderedBy(4, 0, k), Check.NONE);
        }
    }

    /** All that is wrong with the one is answered ahead of what is wrong with the other. */
    private static void betterFirstNamed() {
        Edges.sentence(29, "BAD: a number is not as told (the one ahead).");
        Supplier<GrudgeDesk> made = Edges.busyWith(3, 0, 0, 0, 0, 0);
        int[][] wrong = {{4, 0, Check.NONE}, {3, 0, Check.NOTHING}, {1, 0, Check.BEYOND}, {0, 0, Check.BAD}};
        for (int[] one : wrong) {
            for (int[] other : wrong) {
                Edges.unmoved("better(" + one[0] + ", " + one[1] + ", " + other[0] + ", " + other[1] + ")", made,
                        x -> x.better(one[0], one[1], other[0], other[1]), one[2]);
            }
            Edges.unmoved("the one is wrong: " + one[2], made, x -> x.better(one[0], one[1], 2, 0), one[2]);
            Edges.unmoved("the other is wrong: " + one[2], made, x -> x.better(2, 0, one[0], one[1]), one[2]);
        }
    }

    private static void onlyTheirPlaces() {
        Edges.sentence(Edges.TERMS, "TOLD SHARES stand in a LIST from a place on:");
        for (int n = 2; n <= 4; n++) {
            long[] row = new long[n + 3];
            row[0] = Long.MIN_VALUE;
            row[1] = 1;
            row[n + 2] = Long.MAX_VALUE;
            taken("what stands ahead and behind is no matter", Edges.busyWith(n, 0, row).get(), 0, 1);
        }
    }

    private static void goodOrNot() {
        Edges.sentence(27, "Whether TOLD SHARES are GOOD (1), and no GRUDGE is above 0, too (2); else 0.");
        GrudgeDesk x = Check.desk(3, 10, 20, 30, 30, 40, 50, 60);
        int[][] rows = {{10000, 20000, 30000, 2}, {10001, 20000, 29999, 1}, {9999, 20000, 30001, 1},
            {10000, 20001, 29999, 1},
            {10000, 19999, 30001, 1}, {10000, 20000, 30001, 0}, {10000, 20000, 29999, 0}, {60000, 0, 0, 1},
            {0, 0, 0, 0}};
        for (int[] row : rows) {
            Check.row(x, 0, 1000, row[0], row[1], row[2]);
            Check.due(row[0] + ", " + row[1] + ", " + row[2] + " by 1000", x.shares(0, 0), row[3]);
        }
        Check.row(x, 0, 1, 10, 20, 30);
        for (int g = 1; g <= 6; g++) {
            int worth = (int) x.worthOf(g);
            x.worth(g, worth + 1);
            Check.due("a grudge of " + g + " above 0", x.shares(0, 0), 1);
            x.worth(g, worth);
        }
        x.worth(7, 61);
        Check.due("not good, no grudge", x.shares(0, 0), 0);
        Edges.sentence(Edges.TERMS, "SHARES: a fraction for each of PEOPLE, below 0, too.");
        x = Check.desk(2, -7, -9, -16);
        Check.row(x, 0, 1, -7, -9);
        Check.due("below 0", x.shares(0, 0), 2);
    }

    private static void grudgesBy() {
        Edges.sentence(26, "GRUDGE of a PART by TOLD SHARES. NO: no PART, part, or as told for shares().");
        for (int n = 2; n <= 4; n++) {
            int people = n;
            int all = (1 << n) - 1;
            GrudgeDesk x = Edges.busy(n);
            Check.fraction("group 1 of " + n, x.grudgeBy(0, 0, 1, 0), x.grudgeBy(0, 0, 1, 1), -7, 1);
            long last = x.worthOf(all - 1) - x.worthOf(all) + 10;
            Check.fraction("the last part of " + n, x.grudgeBy(0, 0, all - 1, 0), x.grudgeBy(0, 0, all - 1, 1), last,
                    1);
            for (int group : Edges.outside(1, all - 1)) {
                Edges.unmoved("grudgeBy of " + group, () -> Edges.busy(people), y -> y.grudgeBy(0, 0, group, 0),
                        Check.NO);
                Check.due("grudgeBy of " + group + ", below", x.grudgeBy(0, 0, group, 1), Check.NO);
            }
        }
        for (int part : Edges.outside(0, 1)) {
            Edges.unmoved("grudgeBy part " + part, x -> x.grudgeBy(0, 0, 1, part), Check.NO);
        }
        Edges.sentence(Edges.TERMS,
                "Fractions are told in lowest terms: part 0 above (below 0, too), 1 below the line.");
        GrudgeDesk x = Check.desk(2, 1, 2, 0);
        long[][] rows = {{1000, 1000, 0, 0, 1}, {1000, 999, 0, 1, 1000}, {1000, 1001, 0, -1, 1000},
            {1000, 500, 0, 1, 2},
            {1000, 1500, 0, -1, 2}, {997, 996, 0, 1, 997}, {1, 0, 0, 1, 1}};
        for (long[] row : rows) {
            Check.row(x, 0, row[0], row[1], row[2]);
            Check.fraction(row[1] + " by " + row[0], x.grudgeBy(0, 0, 1, 0), x.grudgeBy(0, 0, 1, 1), row[3], row[4]);
        }
    }

    private static void orderedBy() {
        Edges.sentence(28, "The k-th PART by GRUDGES by TOLD SHARES, as of ordered().");
        for (int n = 2; n <= 4; n++) {
            int people = n;
            int parts = (1 << n) - 2;
            GrudgeDesk x = Check.desk(n);
            Check.row(x, 0, zeros(n + 1));
            for (int k = 0; k < parts; k++) {
                Check.due("all alike", x.orderedBy(0, 0, k), k + 1);
            }
            x.worth(parts, 1);
            Check.due("the greatest first", x.orderedBy(0, 0, 0), parts);
            Check.due("the others behind it", x.orderedBy(0, 0, parts - 1), parts - 1);
            x.worth(parts, 0);
            x.worth(1, -1);
            Check.due("the least last", x.orderedBy(0, 0, parts - 1), 1);
            Edges.sentence(28, "BAD: a number is not as told; NONE: k.");
            for (int k : Edges.outside(0, parts - 1)) {
                Edges.unmoved("k " + k + " of " + n, () -> Edges.busy(people), y -> y.orderedBy(0, 0, k), Check.NONE);
            }
        }
    }

    private static void better() {
        Edges.sentence(29, "1 the first unlike one is less by the one (it is better), 2 it is more, 0 all are alike.");
        GrudgeDesk x = Check.desk(2, 0, 0, 0);
        long[][] rows = {{1, 0, 0, 1, 0, 0, 0}, {1, 5, 5, 1000, 5000, 5000, 0}, {1000, 1, 0, 1, 0, 0, 1},
            {1000, 0, 1, 1, 0, 0, 1},
            {1, 0, 0, 1000, 0, 1, 2}, {1000, -1, 0, 1, 0, 0, 2}, {999, 1, 1, 1000, 1, 1, 1}, {1000, 1, 1, 999, 1, 1, 2},
            {1, 3, 4, 1, 4, 3, 0}, {1, 1000000, -1000000, 1, -1000000, 1000000, 0},
            {1, 1000000, -1000000, 1, 999999, -1000000, 1},
            {1, 999999, -1000000, 1, 1000000, -1000000, 2}};
        for (long[] row : rows) {
            Check.row(x, 0, row[0], row[1], row[2]);
            Check.row(x, 1, row[3], row[4], row[5]);
            Check.due(row[1] + ", " + row[2] + " by " + row[0] + " against " + row[4] + ", " + row[5] + " by " + row[3],
                    x.better(0, 0, 1, 0), row[6]);
        }
        Edges.unmoved("against themselves", y -> y.better(0, 0, 0, 0), 0);
        Edges.unmoved("against their like", y -> y.better(0, 0, 2, 0), 0);
        lastUnlike();
    }

    /** Two people: the greatest grudge is the same, the least one tells. */
    private static void lastUnlike() {
        GrudgeDesk x = Check.desk(2, 10, 0, 0);
        Check.row(x, 0, 1000, 0, 1);
        Check.row(x, 1, 1, 0, 0);
        Check.due("the last one is less", x.better(0, 0, 1, 0), 1);
        Check.due("the last one is more", x.better(1, 0, 0, 0), 2);
    }

    private static void judge() {
        Edges.sentence(30, "TOLD SHARES judged: the first STAGE that FIXES a PART with another GRUDGE than by them;");
        // a and bcd are fixed by the first stage, b and acd by the second, c and abd by the third
        GrudgeDesk x = Check.desk(4, 10, 20, -200, 30, -200, -200, -200, -200, -200, -200, 50, -200, 70, 90, 100);
        int[][] rows = {{10000, 25000, 40000, 25000, -5}, {10000, 25000, 40001, 24999, 3},
            {10000, 25000, 39999, 25001, 3},
            {10000, 25001, 39999, 25000, 2}, {10000, 24999, 40000, 25001, 2}, {10001, 25000, 40000, 24999, 1},
            {9999, 25000, 40000, 25001, 1}, {10000, 25000, 40000, 25001, 0}, {10000, 25000, 40000, 24999, 0},
            {0, 0, 0, 0, 0},
            {100000, 0, 0, 0, 1}};
        for (int[] row : rows) {
            Check.row(x, 0, 1000, row[0], row[1], row[2], row[3]);
            Check.due(row[0] + ", " + row[1] + ", " + row[2] + ", " + row[3] + " by 1000", x.judge(0, 0), row[4]);
        }
        Edges.sentence(30, "0: they aren't GOOD; -5: they are FAIR.");
        for (int n = 2; n <= 4; n++) {
            GrudgeDesk y = Check.desk(n);
            Check.row(y, 0, zeros(n + 1));
            Check.due("all 0: fair", y.judge(0, 0), -5);
            y.set(0, n, 1);
            Check.due("too much: not good", y.judge(0, 0), 0);
            y.set(0, n - 1, -1);
            Check.due("good, not fair", y.judge(0, 0), 1);
        }
    }

    /** From each place of each row: what had a place is there, all else as it was. */
    private static void layAllPlaces() {
        Edges.sentence(31,
                "BEYOND: not all were (those that had a place are there all the same; none, if i is below 0).");
        for (int n = 2; n <= 4; n++) {
            int people = n;
            long[] fair = new long[n + 1];
            GrudgeDesk fairly = Edges.busy(n);
            fairly.list(3, n + 1);
            fairly.lay(3, 0);
            for (int k = 0; k <= n; k++) {
                fair[k] = fairly.get(3, k);
            }
            for (int size : new int[] {0, 1, n, n + 1, n + 2, 29, 30}) {
                for (int i = -2; i <= size + 1; i++) {
                    int from = i;
                    int room = i < 0 ? 0 : Math.max(0, Math.min(n + 1, size - i));
                    Supplier<GrudgeDesk> made = () -> sevens(people, size);
                    Edges.twins("lay(0, " + i + ") into " + size, made, x -> x.lay(0, from),
                            room == n + 1 ? n + 1 : Check.BEYOND,
                            x -> put(x, from, room, fair));
                }
            }
            for (int i : Edges.outside(0, 30)) {
                Edges.unmoved("lay(0, " + i + ")", () -> sevens(people, 30), x -> x.lay(0, i), Check.BEYOND);
            }
        }
    }

    private static GrudgeDesk sevens(int n, int size) {
        GrudgeDesk x = Edges.busy(n);
        x.list(0, size);
        for (int i = 0; i < size; i++) {
            x.set(0, i, 7777777);
        }
        return x;
    }

    private static long put(GrudgeDesk x, int from, int many, long[] numbers) {
        for (int k = 0; k < many; k++) {
            x.set(0, from + k, numbers[k]);
        }
        return 0;
    }

    private static void layRefused() {
        Edges.sentence(31, "how many numbers. NONE: list; NOTHING; BEYOND: not all were");
        for (int list : Edges.outside(0, 3)) {
            Edges.unmoved("lay(" + list + ", 0)", x -> x.lay(list, 0), Check.NONE);
            Edges.unmoved("NONE ahead of BEYOND", x -> x.lay(list, -1), Check.NONE);
            Edges.unmoved("NONE ahead of NOTHING", GrudgeDesk::new, x -> x.lay(list, 0), Check.NONE);
        }
        for (int list = 0; list <= 3; list++) {
            int into = list;
            Edges.unmoved("lay(" + list + ", 0) of nothing", GrudgeDesk::new, x -> x.lay(into, 0), Check.NOTHING);
            Edges.unmoved("NOTHING ahead of BEYOND", GrudgeDesk::new, x -> x.lay(into, -1), Check.NOTHING);
            Edges.unmoved("NOTHING ahead of BEYOND", GrudgeDesk::new, x -> x.lay(into, 30), Check.NOTHING);
            Edges.unmoved("a row of 0", ShareEdges::emptyRows, x -> x.lay(into, 0), Check.BEYOND);
        }
    }

    private static GrudgeDesk emptyRows() {
        GrudgeDesk x = new GrudgeDesk();
        for (int list = 0; list <= 3; list++) {
            x.list(list, 0);
        }
        return x;
    }

    private static void layLeast() {
        Edges.sentence(31,
                "FAIR SHARES are laid into a LIST from i on as TOLD SHARES (the least D): how many numbers.");
        laid("all 0", Check.desk(2, 0, 0, 0), 1, 0, 0);
        laid("whole", Check.desk(2, 0, 0, 8), 1, 4, 4);
        laid("halves", Check.desk(2, 0, 0, 9), 2, 9, 9);
        laid("below 0", Check.desk(2, 0, 0, -9), 2, -9, -9);
        laid("at the edge", Check.desk(2, 999, -999, 999), 2, 2997, -999);
        laid("thirds", Check.desk(3, 0, 0, 0, 0, 0, 0, 4), 3, 4, 4, 4);
        laid("a whole, two halves", Check.desk(3, 0, 0, 0, 0, 0, 5, 5), 2, 0, 5, 5);
        laid("fourths", Check.desk(4, 0, 0, 0, 0, 0, 0, 0, 0, 0, 0, 0, 0, 0, 0, -6), 2, -3, -3, -3, -3);
        laid("fourths", Check.desk(4, 0, 0, 0, 0, 0, 0, 0, 0, 0, 0, 0, 0, 0, 0, 7), 4, 7, 7, 7, 7);
    }

    private static void laid(String what, GrudgeDesk x, long... want) {
        x.list(0, 30);
        Check.due(what + ": lay", x.lay(0, 3), want.length);
        for (int k = 0; k < want.length; k++) {
            Check.due(what + ": number " + k, x.get(0, 3 + k), want[k]);
        }
        Check.due(what + ": fair", x.judge(0, 3), -5);
        for (int p = 0; p < x.told(0); p++) {
            Check.due(what + ": share of " + p, x.get(0, 4 + p) * x.fair(p, 1), x.fair(p, 0) * x.get(0, 3));
        }
    }
}
