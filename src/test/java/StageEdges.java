import java.util.Random;

/** Edges of promises 9 to 21: stages, fair shares, what would be. */
final class StageEdges {
    /** Worths with as many stages as there can be: 1 of two people, 4 of three, 11 of four. */
    private static final int[][] MOST_STAGES = {
        {5, -3, 9},
        {6, -1, 2, -3, -3, -9, -2},
        {-7, 5, -8, -13, 8, -9, -9, 9, 6, -10, 13, -12, -6, -3, 10}};
    private static final int[] MOST = {1, 4, 11};

    private StageEdges() {
    }

    static void all() {
        fewestAndMost();
        levels();
        fixed();
        justThisGrudge();
        stageOf();
        fair();
        grudges();
        ordered();
        likeGrudges();
        emptyOrNot();
        cost();
        byTurns();
        surplus();
        would();
        needsRange();
        needsLeast();
        needsRefused();
        greatWorths();
    }

    private static GrudgeDesk most(int n) {
        return Check.desk(n, MOST_STAGES[n - 2]);
    }

    private static void fewestAndMost() {
        Edges.sentence(9, "How many STAGES.");
        for (int n = 2; n <= 4; n++) {
            Check.due("all 0: stages of " + n, Check.desk(n).stages(), 1);
            Check.due("the most stages of " + n, most(n).stages(), MOST[n - 2]);
        }
        Edges.unmoved("stages()", GrudgeDesk::stages, 4);
        Edges.sentence(Edges.TERMS, "and so on, till all PARTS are FIXED.");
        for (int n = 2; n <= 4; n++) {
            GrudgeDesk x = most(n);
            int seen = 0;
            for (int k = 1; k <= x.stages(); k++) {
                Check.due("each part once", seen & x.fixed(k), 0);
                Check.holds("each stage fixes some", x.fixed(k) > 0);
                Check.holds("levels fall", k == 1 || x.level(k, 0) * x.level(k - 1, 1) < x.level(k - 1,
                        0) * x.level(k, 1));
                seen |= x.fixed(k);
            }
            Check.due("all parts of " + n, seen, (1 << (1 << n) - 1) - 2);
        }
    }

    private static void levels() {
        Edges.sentence(10, "LEVEL k (1 on). NO: k, part.");
        for (int n = 2; n <= 4; n++) {
            GrudgeDesk x = most(n);
            Check.holds("level 1", x.level(1, 0) != Check.NO && x.level(1, 1) > 0);
            Check.holds("the last level", x.level(MOST[n - 2], 0) != Check.NO && x.level(MOST[n - 2], 1) > 0);
            for (int k : Edges.outside(1, MOST[n - 2])) {
                for (int part = 0; part <= 1; part++) {
                    Check.due("level(" + k + ", " + part + ") of " + n, x.level(k, part), Check.NO);
                }
            }
        }
        for (int part : Edges.outside(0, 1)) {
            Edges.unmoved("level(1, " + part + ")", x -> x.level(1, part), Check.NO);
            Edges.unmoved("level(0, " + part + ")", x -> x.level(0, part), Check.NO);
        }
        Edges.unmoved("level(0, 0)", x -> x.level(0, 0), Check.NO);
        Edges.unmoved("level(5, 0) of four stages", x -> x.level(5, 0), Check.NO);
        Edges.sentence(Edges.TERMS,
                "Fractions are told in lowest terms: part 0 above (below 0, too), 1 below the line.");
        Check.fraction("0", new GrudgeDesk().level(1, 0), new GrudgeDesk().level(1, 1), 0, 1);
        GrudgeDesk x = Check.desk(2, -3, -4, 0);
        Check.fraction("-7/2", x.level(1, 0), x.level(1, 1), -7, 2);
        x.worth(1, -4);
        Check.fraction("-8/2", x.level(1, 0), x.level(1, 1), -4, 1);
    }

    private static void fixed() {
        Edges.sentence(11, "PARTS (bit g for GROUP g) that STAGE k FIXES. NONE: k.");
        Check.due("fixed(1) of two", most(2).fixed(1), 1 << 1 | 1 << 2);
        for (int n = 2; n <= 4; n++) {
            GrudgeDesk x = most(n);
            Check.holds("fixed by the last", x.fixed(MOST[n - 2]) > 0);
            for (int k : Edges.outside(1, MOST[n - 2])) {
                Check.due("fixed(" + k + ") of " + n, x.fixed(k), Check.NONE);
            }
        }
        Edges.unmoved("fixed(0)", x -> x.fixed(0), Check.NONE);
        Edges.unmoved("fixed(5) of four stages", x -> x.fixed(5), Check.NONE);
        GrudgeDesk x = new GrudgeDesk();
        Check.due("fixed(2) of one stage", x.fixed(2), Check.NONE);
    }

    private static void justThisGrudge() {
        Edges.sentence(Edges.TERMS,
                "it FIXES the PARTS that have just this GRUDGE by all GOOD SHARES by which the greatest is that.");
        // a has 0 then, b 5 or more: with just 5 ab has the greatest grudge, too, with more a lesser one
        GrudgeDesk x = Check.desk(3, 0, -50, 5, -50, -50, 10, 10);
        Check.due("ab is at the level by some shares alone", x.fixed(1), 1 << 1 | 1 << 6);
        Check.fraction("the level", x.level(1, 0), x.level(1, 1), 0, 1);
        // now b and c have 5 by all such shares
        x.worth(5, 5);
        Check.due("ab and ac are at the level by all", x.fixed(1), 1 << 1 | 1 << 3 | 1 << 5 | 1 << 6);
        x.worth(3, 4);
        Check.due("there is room again", x.fixed(1), 1 << 1 | 1 << 6);
        Check.due("they are fixed behind it", x.fixed(2), 1 << 3 | 1 << 5);
        Check.fraction("their level", x.level(2, 0), x.level(2, 1), -1, 2);
        // each alone at -1: pairs have -2 by all such shares, which is another grudge
        x = Check.desk(3, 0, 0, 0, 0, 0, 0, 3);
        Check.due("determined, but less", x.fixed(1), 1 << 1 | 1 << 2 | 1 << 4);
        Check.due("fixed by the next", x.fixed(2), 1 << 3 | 1 << 5 | 1 << 6);
        x.worth(3, 1);
        Check.due("determined, and the same", x.fixed(1), 1 << 1 | 1 << 2 | 1 << 3 | 1 << 4);
    }

    private static void stageOf() {
        Edges.sentence(Edges.TERMS, "PARTS: GROUPS but ALL.");
        Edges.sentence(12, "Which STAGE FIXES a PART. NONE: no PART.");
        for (int n = 2; n <= 4; n++) {
            int people = n;
            int all = (1 << n) - 1;
            GrudgeDesk x = most(n);
            for (int g = 1; g < all; g++) {
                int k = x.stageOf(g);
                Check.holds("stageOf(" + g + ") is one that fixes it", k >= 1 && (x.fixed(k) >> g & 1) == 1);
            }
            for (int group : Edges.outside(1, all - 1)) {
                Edges.unmoved("stageOf(" + group + ") of " + n, () -> Edges.busy(people),
                        y -> y.stageOf(group), Check.NONE);
            }
        }
    }

    private static void fair() {
        Edges.sentence(13, "FAIR SHARE of one. NO: one, part.");
        for (int n = 2; n <= 4; n++) {
            int people = n;
            GrudgeDesk x = Check.desk(n);
            x.worth((1 << n) - 1, n);
            Check.fraction("the first of " + n, x.fair(0, 0), x.fair(0, 1), 1, 1);
            Check.fraction("the last of " + n, x.fair(n - 1, 0), x.fair(n - 1, 1), 1, 1);
            for (int one : Edges.outside(0, n - 1)) {
                Edges.unmoved("fair(" + one + ", 0) of " + n, () -> Edges.busy(people), y -> y.fair(one, 0), Check.NO);
                Check.due("fair(" + one + ", 1) of " + n, x.fair(one, 1), Check.NO);
            }
        }
        for (int part : Edges.outside(0, 1)) {
            Edges.unmoved("fair(0, " + part + ")", x -> x.fair(0, part), Check.NO);
            Edges.unmoved("fair(3, " + part + ")", x -> x.fair(3, part), Check.NO);
        }
        GrudgeDesk x = Check.desk(2, 0, 0, -1);
        Check.fraction("a share below 0", x.fair(1, 0), x.fair(1, 1), -1, 2);
    }

    private static void grudges() {
        Edges.sentence(14, "GRUDGE of a PART by FAIR SHARES. NO: no PART, part.");
        for (int n = 2; n <= 4; n++) {
            int people = n;
            int all = (1 << n) - 1;
            GrudgeDesk x = Check.desk(n);
            x.worth(all, n);
            Check.fraction("grudge(1)", x.grudge(1, 0), x.grudge(1, 1), -1, 1);
            Check.fraction("grudge of the last part", x.grudge(all - 1, 0), x.grudge(all - 1, 1), 1 - n, 1);
            for (int group : Edges.outside(1, all - 1)) {
                Edges.unmoved("grudge(" + group + ", 0) of " + n, () -> Edges.busy(people),
                        y -> y.grudge(group, 0), Check.NO);
                Check.due("grudge(" + group + ", 1) of " + n, x.grudge(group, 1), Check.NO);
            }
        }
        for (int part : Edges.outside(0, 1)) {
            Edges.unmoved("grudge(1, " + part + ")", x -> x.grudge(1, part), Check.NO);
            Edges.unmoved("grudge(7, " + part + ")", x -> x.grudge(7, part), Check.NO);
        }
    }

    private static void ordered() {
        Edges.sentence(15, "of like ones the least number. NONE: k.");
        for (int n = 2; n <= 4; n++) {
            int people = n;
            int parts = (1 << n) - 2;
            GrudgeDesk x = most(n);
            int seen = 0;
            for (int k = 0; k < parts; k++) {
                seen |= 1 << x.ordered(k);
            }
            Check.due("each part of " + n + " once", seen, (1 << parts + 1) - 2);
            for (int k : Edges.outside(0, parts - 1)) {
                Edges.unmoved("ordered(" + k + ") of " + n, () -> Edges.busy(people), y -> y.ordered(k), Check.NONE);
            }
        }
    }

    private static void likeGrudges() {
        Edges.sentence(15,
                "The k-th PART (0 the first) by GRUDGES by FAIR SHARES, the greatest first, of like ones the least "
                        + "number.");
        for (int n = 2; n <= 4; n++) {
            GrudgeDesk x = Check.desk(n);
            for (int k = 0; k < (1 << n) - 2; k++) {
                Check.due("all alike: ordered(" + k + ")", x.ordered(k), k + 1);
            }
        }
        // one for each by symmetry: singles -1, pairs -2, threes -3
        GrudgeDesk x = Check.desk(4);
        x.worth(15, 4);
        int[] want = {1, 2, 4, 8, 3, 5, 6, 9, 10, 12, 7, 11, 13, 14};
        for (int k = 0; k < want.length; k++) {
            Check.due("like ones: ordered(" + k + ")", x.ordered(k), want[k]);
        }
        // -1 for each: threes 3, pairs 2, singles 1
        x.worth(15, -4);
        int[] turned = {7, 11, 13, 14, 3, 5, 6, 9, 10, 12, 1, 2, 4, 8};
        for (int k = 0; k < turned.length; k++) {
            Check.due("like ones, greatest last by number: ordered(" + k + ")", x.ordered(k), turned[k]);
        }
    }

    private static void emptyOrNot() {
        Edges.sentence(Edges.TERMS, "NO CORE: LEVEL 1 is above 0.");
        emptyAt("two people", Check.desk(2, 0, 0, 0), 3, 2);
        emptyAt("pairs of three", Check.desk(3, 0, 0, 2, 0, 2, 2, 3), 7, 3);
        emptyAt("a and bc", Check.desk(3, 4, -9, -9, -9, -9, 6, 10), 7, 2);
        emptyAt("each alone of four", Check.desk(4, 1, 1, -9, 1, -9, -9, -9, 1, -9, -9, -9, -9, -9, -9, 4), 15, 4);
        emptyAt("threes of four", Check.desk(4, -9, -9, -9, -9, -9, -9, 3, -9, -9, -9, 3, -9, 3, 3, 4), 15, 4);
        Edges.sentence(16, "Whether there is NO CORE: 1, 0.");
        // abc twice, ad, bd, cd: level 1 is (2 abc + ad + bd + cd - 3 abcd) / 5
        GrudgeDesk x = Check.desk(4, -99, -99, -99, -99, -99, -99, 1, -99, 0, 0, -99, 0, -99, -99, 1);
        Check.fraction("just below 0", x.level(1, 0), x.level(1, 1), -1, 5);
        Check.due("-1/5", x.empty(), 0);
        x.worth(9, 1);
        Check.fraction("just 0", x.level(1, 0), x.level(1, 1), 0, 1);
        Check.due("0", x.empty(), 0);
        x.worth(10, 1);
        Check.fraction("just above 0", x.level(1, 0), x.level(1, 1), 1, 5);
        Check.due("1/5", x.empty(), 1);
        Edges.unmoved("empty()", GrudgeDesk::empty, 0);
    }

    /** Told with level 1 just 0: with all worth one more or less it is that much by weights of this sum. */
    private static void emptyAt(String what, GrudgeDesk x, int all, int weights) {
        int worth = (int) x.worthOf(all);
        Check.due(what + ": level 0", x.level(1, 0), 0);
        Check.due(what + ": a core", x.empty(), 0);
        x.worth(all, worth + 1);
        Check.holds(what + ": level below 0", x.level(1, 0) < 0 && weights % x.level(1, 1) == 0);
        Check.due(what + ": a core with more", x.empty(), 0);
        x.worth(all, worth - 1);
        Check.holds(what + ": level above 0", x.level(1, 0) > 0 && weights % x.level(1, 1) == 0);
        Check.due(what + ": no core", x.empty(), 1);
    }

    private static void cost() {
        Edges.sentence(17, "COST. NO: part.");
        for (int part : Edges.outside(0, 1)) {
            Edges.unmoved("cost(" + part + ")", x -> x.cost(part), Check.NO);
        }
        Edges.sentence(Edges.TERMS,
                "COST: the least WORTH that ALL could have so that there are SHARES, together that much,");
        Check.fraction("all 0", new GrudgeDesk().cost(0), new GrudgeDesk().cost(1), 0, 1);
        for (int n = 2; n <= 4; n++) {
            for (int sign = -1; sign <= 1; sign += 2) {
                GrudgeDesk x = Check.desk(n);
                for (int g = 1; g < (1 << n) - 1; g++) {
                    x.worth(g, sign * 999);
                }
                for (int worth : new int[] {-999, 0, 999}) {
                    x.worth((1 << n) - 1, worth);
                    // each alone binds above 0; below it all groups that lack one: 999 n / (n - 1)
                    int below = sign > 0 ? 1 : new int[] {1, 2, 1}[n - 2];
                    int above = sign > 0 ? 999 * n : -999 * n * below / (n - 1);
                    Check.fraction("at the edge, all worth " + worth, x.cost(0), x.cost(1), above, below);
                }
            }
        }
        GrudgeDesk x = Check.desk(4, 0, 0, 0, 0, 0, 0, 1, 0, 0, 0, 1, 0, 1, 1, 999);
        Check.fraction("four thirds", x.cost(0), x.cost(1), 4, 3);
        x = Check.desk(3, -9, -9, -1, -9, -1, -1, 0);
        Check.fraction("below 0", x.cost(0), x.cost(1), -3, 2);
    }

    private static void byTurns() {
        Edges.sentence(18, "TURNS of one. NO: one, part.");
        for (int n = 2; n <= 4; n++) {
            int people = n;
            GrudgeDesk x = Check.desk(n);
            x.worth((1 << n) - 1, 1);
            Check.fraction("the first of " + n, x.byTurns(0, 0), x.byTurns(0, 1), 1, n);
            Check.fraction("the last of " + n, x.byTurns(n - 1, 0), x.byTurns(n - 1, 1), 1, n);
            for (int one : Edges.outside(0, n - 1)) {
                Edges.unmoved("byTurns(" + one + ", 0) of " + n, () -> Edges.busy(people), y -> y.byTurns(one, 0),
                        Check.NO);
                Check.due("byTurns(" + one + ", 1) of " + n, x.byTurns(one, 1), Check.NO);
            }
        }
        for (int part : Edges.outside(0, 1)) {
            Edges.unmoved("byTurns(0, " + part + ")", x -> x.byTurns(0, part), Check.NO);
            Edges.unmoved("byTurns(3, " + part + ")", x -> x.byTurns(3, part), Check.NO);
        }
        Edges.sentence(Edges.TERMS, "by how many orders there are (nobody is worth 0).");
        GrudgeDesk x = Check.desk(4, 1, 0, 0, 0, 0, 0, 0, 0, 0, 0, 0, 0, 0, 0, 0);
        Check.fraction("a comes first in 6 of 24, others come to a first in 2", x.byTurns(0, 0), x.byTurns(0, 1), 1, 4);
        Check.fraction("b loses it", x.byTurns(1, 0), x.byTurns(1, 1), -1, 12);
        x = Check.desk(2, 999, -999, -999);
        Check.fraction("a at the edges", x.byTurns(0, 0), x.byTurns(0, 1), 999, 2);
        Check.fraction("b at the edges", x.byTurns(1, 0), x.byTurns(1, 1), -2997, 2);
    }

    private static void surplus() {
        Edges.sentence(19,
                "The greatest GRUDGE by FAIR SHARES of a PART with one and without another. NO: such, one twice, "
                        + "part.");
        for (int n = 2; n <= 4; n++) {
            int people = n;
            GrudgeDesk x = most(n);
            for (int p = 0; p < n; p++) {
                int one = p;
                for (int q = 0; q < n; q++) {
                    Check.due("surplus(" + p + ", " + q + ") is NO just of one twice",
                            x.surplus(p, q, 0) == Check.NO ? 1 : 0, p == q ? 1 : 0);
                    Check.due("below the line, too", x.surplus(p, q, 1) == Check.NO ? 1 : 0, p == q ? 1 : 0);
                }
                Edges.unmoved("surplus(" + p + ", " + p + ", 0)", () -> Edges.busy(people),
                        y -> y.surplus(one, one, 0), Check.NO);
            }
            for (int one : Edges.outside(0, n - 1)) {
                Edges.unmoved("surplus(" + one + ", 0, 0)", () -> Edges.busy(people), y -> y.surplus(one, 0, 0),
                        Check.NO);
                Edges.unmoved("surplus(0, " + one + ", 0)", () -> Edges.busy(people), y -> y.surplus(0, one, 0),
                        Check.NO);
                Check.due("surplus of one there isn't, twice", x.surplus(one, one, 0), Check.NO);
            }
        }
        for (int part : Edges.outside(0, 1)) {
            Edges.unmoved("surplus(0, 1, " + part + ")", x -> x.surplus(0, 1, part), Check.NO);
            Edges.unmoved("surplus(0, 0, " + part + ")", x -> x.surplus(0, 0, part), Check.NO);
        }
        GrudgeDesk x = Check.desk(2, 5, -3, 9);
        Check.fraction("one part alone", x.surplus(1, 0, 0), x.surplus(1, 0, 1), -7, 2);
    }

    private static void would() {
        Edges.sentence(20, "FAIR SHARE of one, were WORTH of a GROUP v. NO: group, v, one, part.");
        for (int n = 2; n <= 4; n++) {
            int people = n;
            int all = (1 << n) - 1;
            for (int v : new int[] {-999, 0, 999}) {
                GrudgeDesk y = Edges.busy(n);
                y.worth(all, v);
                GrudgeDesk z = Edges.busy(n);
                z.worth(1, v);
                for (int part = 0; part <= 1; part++) {
                    int above = part;
                    Edges.unmoved("would(" + all + ", " + v + ")", () -> Edges.busy(people),
                            x -> x.would(all, v, people - 1, above), y.fair(n - 1, part));
                    Edges.unmoved("would(1, " + v + ")", () -> Edges.busy(people),
                            x -> x.would(1, v, 0, above), z.fair(0, part));
                }
            }
            for (int group : Edges.outside(1, all)) {
                Edges.unmoved("would(" + group + ", 1, 0, 0)", () -> Edges.busy(people),
                        x -> x.would(group, 1, 0, 0), Check.NO);
            }
            for (int one : Edges.outside(0, n - 1)) {
                Edges.unmoved("would(1, 1, " + one + ", 0)", () -> Edges.busy(people),
                        x -> x.would(1, 1, one, 0), Check.NO);
            }
        }
        for (int v : Edges.outside(-999, 999)) {
            Edges.unmoved("would(7, " + v + ", 0, 0)", x -> x.would(7, v, 0, 0), Check.NO);
            Edges.unmoved("would(1, " + v + ", 2, 1)", x -> x.would(1, v, 2, 1), Check.NO);
        }
        for (int part : Edges.outside(0, 1)) {
            Edges.unmoved("would(1, 1, 0, " + part + ")", x -> x.would(1, 1, 0, part), Check.NO);
        }
        Edges.unmoved("all of it wrong", x -> x.would(0, 1000, 3, 2), Check.NO);
    }

    /** Two people, alone worth 0: half of all for each. */
    private static void needsRange() {
        Edges.sentence(21, "Of what WORTH of a GROUP is and up to 30 more (999 at most) the least such that,");
        Edges.unmoved("what it is is enough", () -> halves(10), x -> x.needs(3, 0, 5), 10);
        Edges.unmoved("more than enough", () -> halves(10), x -> x.needs(3, 0, -50), 10);
        Edges.unmoved("1 more", () -> halves(9), x -> x.needs(3, 0, 5), 10);
        Edges.unmoved("29 more", () -> halves(-19), x -> x.needs(3, 1, 5), 10);
        Edges.unmoved("30 more", () -> halves(-20), x -> x.needs(3, 1, 5), 10);
        Edges.unmoved("31 more", () -> halves(-21), x -> x.needs(3, 1, 5), Check.NO);
        Edges.unmoved("30 more, to 998", () -> halves(968), x -> x.needs(3, 0, 499), 998);
        Edges.unmoved("31 more, to 998", () -> halves(967), x -> x.needs(3, 0, 499), Check.NO);
        Edges.unmoved("1000 is too much", () -> halves(970), x -> x.needs(3, 0, 500), Check.NO);
        Edges.unmoved("from 998", () -> halves(998), x -> x.needs(3, 0, 500), Check.NO);
        Edges.unmoved("999 itself", () -> halves(999), x -> x.needs(3, 0, 499), 999);
        Edges.unmoved("999 and no more", () -> halves(999), x -> x.needs(3, 0, 500), Check.NO);
        Edges.unmoved("from -999", () -> halves(-999), x -> x.needs(3, 0, -500), -999);
        Edges.unmoved("from -998, 30 more", () -> halves(-998), x -> x.needs(3, 0, -484), -968);
        Edges.unmoved("from -999, 31 more", () -> halves(-999), x -> x.needs(3, 0, -484), Check.NO);
        // the share of a is (all + a - b) / 2
        Edges.unmoved("a alone up to 999", () -> Check.desk(2, 969, 0, 0), x -> x.needs(1, 0, 499), 998);
        Edges.unmoved("a alone is 999 at most", () -> Check.desk(2, 970, 0, 1), x -> x.needs(1, 0, 500), 999);
        Edges.unmoved("a alone would be 1000", () -> Check.desk(2, 980, 0, 0), x -> x.needs(1, 0, 500), Check.NO);
    }

    private static GrudgeDesk halves(int worth) {
        return Check.desk(2, 0, 0, worth);
    }

    private static void needsLeast() {
        Edges.sentence(21, "the least such that, were it so, FAIR SHARE of one were g or more.");
        Edges.unmoved("9/2 is not 5 or more", () -> halves(9), x -> x.needs(3, 0, 5), 10);
        Edges.unmoved("9/2 is 4 or more", () -> halves(9), x -> x.needs(3, 0, 4), 9);
        Edges.unmoved("-9/2 is -5 or more", () -> halves(-9), x -> x.needs(3, 0, -5), -9);
        Edges.unmoved("-9/2 is not -4 or more", () -> halves(-9), x -> x.needs(3, 0, -4), -8);
        Edges.unmoved("the least int", () -> halves(9), x -> x.needs(3, 0, Integer.MIN_VALUE), 9);
        Edges.unmoved("the greatest int", () -> halves(9), x -> x.needs(3, 0, Integer.MAX_VALUE), Check.NO);
        // as bcd is worth more b has first more, then less, then more again
        int[] worths = {9, 8, 3, 1, 8, 2, 4, 5, 9, 9, 9, 9, 0, 6, 7};
        GrudgeDesk x = Check.desk(4, worths);
        Check.holds("enough at 12", x.would(14, 12, 1, 0) >= 2 * x.would(14, 12, 1, 1));
        Check.holds("not at 11", x.would(14, 11, 1, 0) < 2 * x.would(14, 11, 1, 1));
        Check.holds("not at 20", x.would(14, 20, 1, 0) < 2 * x.would(14, 20, 1, 1));
        Check.holds("enough at 36", x.would(14, 36, 1, 0) >= 2 * x.would(14, 36, 1, 1));
        Edges.unmoved("the least of several", () -> Check.desk(4, worths), y -> y.needs(14, 1, 2), 12);
    }

    private static void needsRefused() {
        Edges.sentence(21, "NO: there is none; no such GROUP, one.");
        for (int n = 2; n <= 4; n++) {
            int people = n;
            for (int group : Edges.outside(1, (1 << n) - 1)) {
                Edges.unmoved("needs(" + group + ", 0, -9)", () -> Edges.busy(people),
                        x -> x.needs(group, 0, -9), Check.NO);
            }
            for (int one : Edges.outside(0, n - 1)) {
                Edges.unmoved("needs(1, " + one + ", -9)", () -> Edges.busy(people),
                        x -> x.needs(1, one, -9), Check.NO);
            }
            int all = (1 << n) - 1;
            Edges.unmoved("needs(all, the last, -999)", () -> Edges.busy(people),
                    x -> x.needs(all, people - 1, -999), Edges.busy(n).worthOf(all));
        }
        Edges.unmoved("another's worth gives nothing", () -> halves(-1), x -> x.needs(2, 0, 0), Check.NO);
    }

    /** Worths at their edges: the longest fractions and the greatest numbers that there are. */
    private static void greatWorths() {
        Edges.sentence(Edges.TERMS, "STAGES: LEVEL 1 is the least that the greatest GRUDGE can be by GOOD SHARES;");
        Random random = new Random(999);
        int[] edges = {-999, -998, 998, 999};
        for (int turn = 0; turn < 45; turn++) {
            int n = 2 + turn % 3;
            int[] v = new int[1 << n];
            for (int g = 1; g < v.length; g++) {
                v[g] = edges[random.nextInt(edges.length)];
            }
            OracleTest.holdAgainst(n, v);
        }
    }
}
