import java.util.ArrayList;
import java.util.Arrays;
import java.util.List;
import java.util.Random;

/** The terms that no promise's own tests tell: what the words in capitals mean, by small worths worked out by hand. */
final class TermEdges {
    private TermEdges() {
    }

    static void all() {
        howMany();
        groupOfAll();
        deedsThatTell();
        grudgesAndGoodShares();
        stagesOnAGrid();
        cost();
        turns();
        balance();
        nobodyIdle();
        sizes();
        firstNamed();
        heldInOrder();
        fewerThanBefore();
    }

    private static void howMany() {
        Edges.sentence(Edges.TERMS, "4 (3 at first).");
        GrudgeDesk x = new GrudgeDesk();
        Check.due("at first", x.told(0), 3);
        Check.due("people(4)", x.people(4), 3);
        Check.due("people(5)", x.people(5), Check.BAD);
        Check.due("people(2)", x.people(2), 4);
        Check.due("people(1)", x.people(1), Check.BAD);
        Check.due("n", x.told(0), 2);
    }

    private static void groupOfAll() {
        Edges.sentence(Edges.TERMS, "ALL: the GROUP of all.");
        for (int n = 2; n <= 4; n++) {
            int all = (1 << n) - 1;
            GrudgeDesk x = Check.desk(n);
            x.worth(all, n * 5);
            for (int p = 0; p < n; p++) {
                Check.fraction("an equal share of all", x.fair(p, 0), x.fair(p, 1), 5, 1);
            }
            Check.due("all have no stage", x.stageOf(all), Check.NONE);
            Check.due("all have no grudge", x.grudge(all, 0), Check.NO);
            Check.due("all but one have", x.grudge(all - 1, 0), -5 * (n - 1));
        }
    }

    private static void deedsThatTell() {
        Edges.sentence(Edges.TERMS, "people N; worth G N (WORTH of a GROUP becomes N); more G N (N more);");
        for (int n = 2; n <= 4; n++) {
            int many = n;
            Edges.twins("people " + n, Edges::busy, x -> anew(x, "people " + many), 1, x -> x.clear() + x.people(many));
        }
        Edges.twins("worth ac -17", Edges::busy, x -> anew(x, "worth ac -17"), 1, x -> x.clear() + x.worth(5, -17));
        Edges.twins("more ac -17", Edges::busy, x -> anew(x, "more ac -17"), 1, x -> x.clear() + x.worth(5, 40 - 17));
        Edges.twins("more abc 17", Edges::busy, x -> anew(x, "more abc 17"), 1, x -> x.clear() + x.worth(7, 61 + 17));
    }

    private static long anew(GrudgeDesk x, String text) {
        x.clear();
        return Check.deeds(x, text);
    }

    private static void grudgesAndGoodShares() {
        Edges.sentence(Edges.TERMS, "GRUDGE of a PART by SHARES: its WORTH less what its PEOPLE have, added up.");
        GrudgeDesk x = Check.desk(4, 1, 2, 3, 4, 5, 6, 7, 8, 9, 10, 11, 12, 13, 14, 15);
        Check.row(x, 0, 10, 1, 20, -300, 4000);
        int[] tenths = {0, 1, 20, 21, -300, -299, -280, -279, 4000, 4001, 4020, 4021, 3700, 3701, 3720};
        for (int g = 1; g <= 14; g++) {
            Ratio want = Ratio.of(10 * g - tenths[g], 10);
            Check.fraction("grudge of " + g, x.grudgeBy(0, 0, g, 0), x.grudgeBy(0, 0, g, 1), want.above(),
                    want.below());
        }
        Edges.sentence(Edges.TERMS, "SHARES are GOOD, if all together are WORTH of ALL.");
        Check.due("3721 tenths are not 15", x.shares(0, 0), 0);
        x.worth(15, 372);
        Check.due("nor 372", x.shares(0, 0), 0);
        Check.row(x, 0, 10, 0, 20, -300, 4000);
        Check.due("3720 are, with grudges", x.shares(0, 0), 1);
    }

    /**
     * The stages by their own words: of all shares on a grid, worths being twelves, so that levels are on it.
     * Shares that are worse at a stage, or have another grudge of a fixed part, are out.
     */
    private static void stagesOnAGrid() {
        Edges.sentence(Edges.TERMS,
                "LEVEL k is the least that the greatest GRUDGE of PARTS not FIXED yet can be by GOOD SHARES by which "
                        + "all FIXED ones have the GRUDGES at which they were; it FIXES those of these PARTS that "
                        + "have just this GRUDGE by all such SHARES by which the greatest of them is that;");
        Edges.sentence(Edges.TERMS, "FAIR: the one SHARES that are left.");
        Random random = new Random(12);
        for (int turn = 0; turn < 80; turn++) {
            int[] v = new int[8];
            for (int g = 1; g < 8; g++) {
                v[g] = 12 * (random.nextInt(5) - 2);
            }
            stagesOnAGrid(v);
        }
    }

    private static void stagesOnAGrid(int[] v) {
        GrudgeDesk x = Check.desk(3);
        for (int g = 1; g < 8; g++) {
            x.worth(g, v[g]);
        }
        List<int[]> left = new ArrayList<>();
        for (int a = -90; a <= 90; a++) {
            for (int b = -90; b <= 90; b++) {
                left.add(grudgesOf(v, a, b));
            }
        }
        int open = 126;
        int k = 0;
        while (open != 0) {
            k++;
            int parts = open;
            int level = left.stream().mapToInt(grudges -> greatest(grudges, parts)).min().getAsInt();
            left.removeIf(grudges -> greatest(grudges, parts) != level);
            int fixed = 0;
            for (int g = 1; g < 7; g++) {
                int group = g;
                boolean isFixed = (open >> g & 1) == 1 && left.stream().allMatch(grudges -> grudges[group] == level);
                fixed |= isFixed ? 1 << g : 0;
            }
            Check.fraction("level " + k, x.level(k, 0), x.level(k, 1), level, 1);
            Check.due("fixed(" + k + ")", x.fixed(k), fixed);
            if (fixed == 0) {
                return;
            }
            open &= ~fixed;
        }
        Check.due("stages", x.stages(), k);
        Check.due("shares that are left", left.size(), 1);
        for (int p = 0; p < 3; p++) {
            Check.fraction("share of " + p, x.fair(p, 0), x.fair(p, 1), v[1 << p] - left.get(0)[1 << p], 1);
        }
    }

    private static int[] grudgesOf(int[] v, int a, int b) {
        int[] shares = {a, b, v[7] - a - b};
        int[] grudges = new int[7];
        for (int g = 1; g < 7; g++) {
            grudges[g] = v[g];
            for (int p = 0; p < 3; p++) {
                grudges[g] -= (g >> p & 1) * shares[p];
            }
        }
        return grudges;
    }

    private static int greatest(int[] grudges, int parts) {
        int greatest = Integer.MIN_VALUE;
        for (int g = 1; g < 7; g++) {
            greatest = (parts >> g & 1) == 1 ? Math.max(greatest, grudges[g]) : greatest;
        }
        return greatest;
    }

    /** With all worth the cost, or the next whole number, there is a core; with one less there is none. */
    private static void cost() {
        Edges.sentence(Edges.TERMS, "by which no GRUDGE is above 0 (all else as it is).");
        Random random = new Random(17);
        for (int turn = 0; turn < 300; turn++) {
            int n = 2 + turn % 3;
            int all = (1 << n) - 1;
            GrudgeDesk x = Check.desk(n);
            for (int g = 1; g <= all; g++) {
                x.worth(g, random.nextInt(41) - 20);
            }
            int enough = (int) -Math.floorDiv(-x.cost(0), x.cost(1));
            boolean isWhole = x.cost(1) == 1;
            x.worth(all, enough);
            Check.due("enough", x.empty(), 0);
            Check.holds("just enough", (x.level(1, 0) == 0) == isWhole);
            x.list(0, n + 1);
            x.lay(0, 0);
            Check.due("shares with no grudge above 0", x.shares(0, 0), 2);
            x.worth(all, enough - 1);
            Check.due("too little", x.empty(), 1);
            x.lay(0, 0);
            Check.due("some grudge is above 0", x.shares(0, 0), 1);
        }
    }

    private static void turns() {
        Edges.sentence(Edges.TERMS,
                "TURNS: of each by all orders of PEOPLE, each order alike: by how much WORTH of those who have come is "
                        + "more as one comes, added up,");
        GrudgeDesk x = Check.desk(2, 3, 10, 20);
        // a, b: 3, 17; b, a: 10, 10
        Check.fraction("a of two", x.byTurns(0, 0), x.byTurns(0, 1), 13, 2);
        Check.fraction("b of two", x.byTurns(1, 0), x.byTurns(1, 1), 27, 2);
        x = Check.desk(3, 1, 2, 10, 4, 20, 30, 100);
        // a comes first twice, behind b, behind c, behind both twice: 1 + 1 + 8 + 16 + 70 + 70
        Check.fraction("a of three", x.byTurns(0, 0), x.byTurns(0, 1), 83, 3);
        // 2 + 2 + 9 + 26 + 80 + 80
        Check.fraction("b of three", x.byTurns(1, 0), x.byTurns(1, 1), 199, 6);
        // 4 + 4 + 19 + 28 + 90 + 90
        Check.fraction("c of three", x.byTurns(2, 0), x.byTurns(2, 1), 235, 6);
        // abc alone is worth 12: as the third of them comes (6 orders of 24, 2 for each), and lost as d comes last
        x = Check.desk(4, 0, 0, 0, 0, 0, 0, 12, 0, 0, 0, 0, 0, 0, 0, 0);
        for (int p = 0; p < 3; p++) {
            Check.fraction("one of the three", x.byTurns(p, 0), x.byTurns(p, 1), 1, 1);
        }
        Check.fraction("d", x.byTurns(3, 0), x.byTurns(3, 1), -3, 1);
    }

    private static void balance() {
        Edges.sentence(Edges.TERMS, "if for each of PEOPLE those of all PARTS with that one are alike in sum, c.");
        GrudgeDesk x = Check.desk(3, 1, 2, 3, 4, 5, 6, 10);
        // with a: 1 + 2 + 3, with b: 4 + 2 + 0, with c: 3 + 3 + 0
        Check.row(x, 0, 1, 4, 2, 3, 3, 0);
        Check.due("6 with each", x.tilts(0, 0), -5);
        // 1 + 8 + 6 + 12 + 15 - 60, by 13
        Check.fraction("what they prove", x.proof(0, 0, 0), x.proof(0, 0, 1), -18, 13);
        x.set(0, 5, 1);
        Check.due("7 with b and c", x.tilts(0, 0), 1);
        x.set(0, 1, 3);
        Check.due("7 with c alone", x.tilts(0, 0), 2);
        x.set(0, 3, 2);
        Check.due("6 with each again", x.tilts(0, 0), -5);
    }

    private static void nobodyIdle() {
        Edges.sentence(Edges.TERMS, "Nobody IDLE:");
        Check.due("nobody of two", Check.desk(2, 1, 2, 4).idle(), 0);
        Check.due("nobody of three", Check.desk(3, 0, 0, 1, 0, 1, 1, 1).idle(), 0);
        Check.due("c alone", Check.desk(3, 0, 0, 1, 5, 5, 5, 6).idle(), 4);
        Check.due("c no more", Check.desk(3, 0, 0, 1, 5, 5, 5, 7).idle(), 0);
    }

    private static void sizes() {
        Edges.sentence(Edges.TERMS, "or a row of 0 .. 30 longs.");
        GrudgeDesk x = new GrudgeDesk();
        Check.due("31", x.list(0, 31), Check.BAD);
        Check.due("it holds nothing still", x.set(0, 0, 1), Check.NOTHING);
        for (int size = 0; size <= 30; size++) {
            Check.due("list of " + size, x.list(0, size), 1);
            Check.due("the last place", x.get(0, size - 1), size == 0 ? Check.NO : 0);
            Check.due("behind it", x.get(0, size), Check.NO);
        }
        Check.due("31 again", x.list(0, 31), Check.BAD);
        Check.due("it is as it was", x.get(0, 29), 0);
    }

    /** Calls with all wrong that they name answer the first of it. */
    private static void firstNamed() {
        Edges.sentence(Edges.TERMS, "the first that a call's words name.");
        Edges.sentence(Edges.TERMS, "What is answered so changes nothing;");
        Edges.unmoved("feed: BAD, FULL", DeskEdges::withFullTape, x -> x.feed(128), Check.BAD);
        Edges.unmoved("list: NONE, BAD", x -> x.list(4, 31), Check.NONE);
        Edges.unmoved("list: NONE, BELOW", x -> x.list(4, -1), Check.NONE);
        Edges.unmoved("set: NONE, BEYOND", x -> x.set(4, 30, 1), Check.NONE);
        Edges.unmoved("set: NOTHING, BEYOND", x -> x.set(3, 30, 1), Check.NOTHING);
        Edges.unmoved("lay: NONE, BEYOND", x -> x.lay(4, -1), Check.NONE);
        Edges.unmoved("lay: NOTHING, BEYOND", x -> x.lay(3, -1), Check.NOTHING);
        Edges.unmoved("shares: NONE, BEYOND", x -> x.shares(-1, -1), Check.NONE);
        Edges.unmoved("shares: BEYOND, BAD", Edges.busyWith(3, 1, 0, 0), x -> x.shares(1, 0), Check.BEYOND);
        Edges.unmoved("judge: BAD, not GOOD", Edges.busyWith(3, 1, 0, 9, 9, 9), x -> x.judge(1, 0), Check.BAD);
        Edges.unmoved("orderedBy: BAD, NONE", Edges.busyWith(3, 1, 0, 9, 9, 9), x -> x.orderedBy(1, 0, 6), Check.BAD);
        Edges.unmoved("tilts: BEYOND, BAD", Edges.busyWith(2, 1, 0, -1), x -> x.tilts(1, 1), Check.BEYOND);
        Edges.unmoved("undo: STATE", GrudgeDesk::new, GrudgeDesk::undo, Check.STATE);
    }

    private static void heldInOrder() {
        Edges.sentence(29, "TOLD SHARES held against others, GRUDGES in order, the greatest first:");
        GrudgeDesk x = Check.desk(3, 0, 0, 0, 0, 0, 0, 6);
        // -1, -2, -3, -3, -4, -5 by the one, in other places by the other
        Check.row(x, 0, 1, 1, 2, 3);
        Check.row(x, 1, 1, 3, 1, 2);
        Check.due("like ones in other places", x.better(0, 0, 1, 0), 0);
        // -1, -1, -2, -4, -5, -5: the second is more
        Check.row(x, 1, 1, 4, 1, 1);
        Check.due("the second is less", x.better(0, 0, 1, 0), 1);
        Check.due("the second is more", x.better(1, 0, 0, 0), 2);
        // one part has a far lesser grudge, but not the greatest
        Check.row(x, 0, 1, 500, 500, 0);
        Check.due("the greatest tells", x.better(0, 0, 1, 0), 2);
        Check.due("the greatest tells", x.better(1, 0, 0, 0), 1);
    }

    /** What was worked out for more people is nothing to fewer: all is as of a new desk told the same. */
    private static void fewerThanBefore() {
        Edges.sentence(2, "There are n PEOPLE, all WORTHS 0: what n was.");
        for (int more = 3; more <= 4; more++) {
            for (int n = 2; n < more; n++) {
                GrudgeDesk x = Check.desk(more);
                tellAndAsk(x, more, 60);
                Check.due("people(" + n + ")", x.people(n), more);
                Check.row(x, 0, Arrays.copyOf(new long[] {1}, n + 1));
                Check.due("nobody has, no grudge is above 0", x.shares(0, 0), 2);
                String left = tellAndAsk(x, n, 1);
                String right = tellAndAsk(Check.desk(n), n, 1);
                Check.holds(n + " behind " + more + ": " + left + ", due is " + right, left.equals(right));
            }
        }
    }

    /** Worths, told shares of 0 and like weights: all that reads them, and the stages. */
    private static String tellAndAsk(GrudgeDesk x, int n, int times) {
        int all = (1 << n) - 1;
        x.list(0, n + 1);
        x.set(0, 0, 1);
        x.list(1, all - 1);
        for (int g = 1; g <= all; g++) {
            x.worth(g, g * times - 12);
            x.set(1, g - 1, times);
        }
        List<Long> seen = new ArrayList<>();
        for (int part = 0; part <= 1; part++) {
            seen.addAll(List.of(x.proof(1, 0, part), x.level(1, part), x.fair(0, part), x.surplus(0, 1, part),
                    x.cost(part), x.byTurns(0, part), x.needs(all, 0, part)));
        }
        for (int answer : new int[] {x.shares(0, 0), x.judge(0, 0), x.better(0, 0, 0, 0), x.orderedBy(0, 0, all - 2),
                x.ordered(all - 2), x.tilts(1, 0), x.proves(1, 0), x.stages(), x.fixed(1), x.is(0), x.idle()}) {
            seen.add((long) answer);
        }
        return seen.toString();
    }
}
