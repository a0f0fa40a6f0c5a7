/** Edges of promises 22 to 25: kinds of worth, who is idle, who are alike. */
final class KindEdges {
    private static final int CONVEX = 0, ADDS = 1, GROWS = 2;

    private KindEdges() {
    }

    static void all() {
        whatRefused();
        convexAtTheEdge();
        convexOfNone();
        addsAtTheEdge();
        growsAtTheEdge();
        nothingIsNoGroup();
        leastAgainst();
        idleAtTheEdge();
        alikeAtTheEdge();
        alikeRefused();
        greatWorths();
    }

    private static void whatRefused() {
        Edges.sentence(22, "Whether WORTHS are CONVEX (what 0), ADD (1), GROW (2): 1, 0. NONE: what.");
        for (int what = 0; what <= 2; what++) {
            int asked = what;
            Edges.unmoved("is(" + what + ") of zeros", GrudgeDesk::new, x -> x.is(asked), 1);
            Edges.unmoved("is(" + what + ")", KindEdges::neither, x -> x.is(asked), 0);
        }
        for (int what : Edges.outside(0, 2)) {
            Edges.unmoved("is(" + what + ")", x -> x.is(what), Check.NONE);
        }
        Edges.sentence(25, "-5: there is none. NONE: what.");
        for (int what = 0; what <= 2; what++) {
            int asked = what;
            Edges.unmoved("against(" + what + ") of zeros", GrudgeDesk::new, x -> x.against(asked), -5);
            Edges.unmoved("against(" + what + ")", KindEdges::neither, x -> x.against(asked), 1);
        }
        for (int what : Edges.outside(0, 2)) {
            Edges.unmoved("against(" + what + ")", x -> x.against(what), Check.NONE);
        }
    }

    private static GrudgeDesk neither() {
        return Check.desk(2, 1, 1, 0);
    }

    private static void kind(String what, GrudgeDesk x, int kind, int against) {
        Check.due(what + ": against(" + kind + ")", x.against(kind), against);
        Check.due(what + ": is(" + kind + ")", x.is(kind), against == -5 ? 1 : 0);
    }

    /** By squares two more bring 2 more together than each alone: pulled by 2 that is gone, by 3 it is not convex. */
    private static void convexAtTheEdge() {
        Edges.sentence(Edges.TERMS,
                "CONVEX: for any two GROUPS WORTH of those in either, and of those in both (none: 0),");
        for (int n = 2; n <= 4; n++) {
            for (int s = 1; s < 1 << n; s++) {
                for (int t = s + 1; t < 1 << n; t++) {
                    if ((s & t) != s && Integer.bitCount(s) == Integer.bitCount(s & t) + 1
                            && Integer.bitCount(t) == Integer.bitCount(s & t) + 1) {
                        GrudgeDesk x = squares(n);
                        kind("squares", x, CONVEX, -5);
                        pull(x, n, s, t, 2);
                        kind("no less: " + s + ", " + t, x, CONVEX, -5);
                        pull(x, n, s, t, 1);
                        Check.due("one less: is " + s + ", " + t, x.is(CONVEX), 0);
                        Check.holds("one less: against " + s + ", " + t,
                                x.against(CONVEX) >= 1 && x.against(CONVEX) <= s);
                    }
                }
            }
        }
    }

    /** Each group is worth the square of its size: what one more adds grows by 2. */
    private static GrudgeDesk squares(int n) {
        GrudgeDesk x = Check.desk(n);
        for (int g = 1; g < 1 << n; g++) {
            x.worth(g, Integer.bitCount(g) * Integer.bitCount(g));
        }
        return x;
    }

    /** All groups that hold both are worth less. */
    private static void pull(GrudgeDesk x, int n, int s, int t, int less) {
        for (int g = 1; g < 1 << n; g++) {
            if ((g & (s | t)) == (s | t)) {
                x.worth(g, (int) x.worthOf(g) - less);
            }
        }
    }

    private static void convexOfNone() {
        Edges.sentence(Edges.TERMS, "and of those in both (none: 0), together are no less than both.");
        kind("two with nobody in both", Check.desk(2, 3, 4, 7), CONVEX, -5);
        kind("one less", Check.desk(2, 3, 4, 6), CONVEX, 1);
        kind("below 0", Check.desk(2, -3, -4, -7), CONVEX, -5);
        kind("below 0, one less", Check.desk(2, -3, -4, -8), CONVEX, 1);
        kind("one in both", Check.desk(3, -1, -9, 0, -9, 0, -9, 1), CONVEX, -5);
        kind("one in both, one less", Check.desk(3, -1, -9, 0, -9, 0, -9, 0), CONVEX, 3);
    }

    private static void addsAtTheEdge() {
        Edges.sentence(Edges.TERMS,
                "ADDS: for any two GROUPS with nobody in common WORTH of both as one is no less than both together.");
        for (int n = 2; n <= 4; n++) {
            for (int s = 1; s < 1 << n; s++) {
                for (int t = s + 1; t < 1 << n; t++) {
                    if ((s & t) == 0) {
                        GrudgeDesk x = lone(n, s, t);
                        x.worth(s | t, 11);
                        kind("no less: " + s + ", " + t, x, ADDS, -5);
                        x.worth(s | t, 10);
                        kind("one less: " + s + ", " + t, x, ADDS, s);
                    }
                }
            }
        }
        kind("with one in common it is no matter", Check.desk(3, 0, 0, 9, 0, 9, 9, 9), ADDS, -5);
    }

    /** s is worth 5, t 6; each that comes to other groups brings more than they could have. */
    private static GrudgeDesk lone(int n, int s, int t) {
        GrudgeDesk x = Check.desk(n);
        for (int g = 1; g < 1 << n; g++) {
            boolean within = (g & (s | t)) == g;
            x.worth(g, (within ? -150 : -400) + 30 * Integer.bitCount(g));
        }
        x.worth(s, 5);
        x.worth(t, 6);
        return x;
    }

    private static void growsAtTheEdge() {
        Edges.sentence(Edges.TERMS, "GROWS: no GROUP is worth less than one within it.");
        for (int n = 2; n <= 4; n++) {
            for (int s = 1; s < 1 << n; s++) {
                for (int t = s + 1; t < 1 << n; t++) {
                    if ((s & t) == s && Integer.bitCount(t) == Integer.bitCount(s) + 1) {
                        GrudgeDesk x = Check.desk(n);
                        for (int g = 1; g < 1 << n; g++) {
                            x.worth(g, 10 * Integer.bitCount(g));
                        }
                        x.worth(s, (int) x.worthOf(t));
                        kind("no less: " + s + " in " + t, x, GROWS, -5);
                        x.worth(t, (int) x.worthOf(t) - 1);
                        kind("one less: " + s + " in " + t, x, GROWS, s);
                    }
                }
            }
        }
        kind("less, but not within", Check.desk(2, 5, 1, 5), GROWS, -5);
    }

    private static void nothingIsNoGroup() {
        Edges.sentence(Edges.TERMS, "GROWS: no GROUP is worth less than one within it.");
        kind("below nobody's 0", Check.desk(2, -5, -5, -5), GROWS, -5);
        kind("all below 0", Check.desk(3, -9, -9, -8, -9, -8, -8, -7), GROWS, -5);
        kind("below 0, one less", Check.desk(2, -5, -5, -6), GROWS, 1);
    }

    private static void leastAgainst() {
        Edges.sentence(25,
                "The least GROUP (by its number) that is the lesser of two that show that WORTHS aren't as is() asks");
        kind("just c and d", Check.desk(4, 0, 0, 0, 1, 1, 1, 1, 1, 1, 1, 1, 1, 2, 2, 2), ADDS, 4);
        kind("b and c as a and bc", Check.desk(3, 1, 1, 2, 1, 2, 1, 1), ADDS, 1);
        kind("b and c, not a and bc", Check.desk(3, 1, 1, 2, 1, 2, 1, 3), ADDS, 2);
        kind("the greatest there is: ab and c", Check.desk(3, 0, 0, 2, 0, 1, 1, 1), CONVEX, 3);
        kind("bc and ac alone", Check.desk(3, 0, 0, 0, 0, 2, 2, 3), CONVEX, 5);
        Edges.sentence(25, "(GROW: that is within another one that is worth less)");
        kind("just the last part", Check.desk(3, 0, 0, 0, 0, 0, 2, 1), GROWS, 6);
        kind("just the last part of four", Check.desk(4, 0, 0, 0, 0, 0, 0, 0, 0, 0, 0, 0, 0, 0, 2, 1), GROWS, 14);
        kind("a in ab and c in bc", Check.desk(3, 1, 0, 0, 1, 1, 0, 1), GROWS, 1);
        kind("a in abc, not in ab", Check.desk(3, 1, 0, 1, 0, 1, 0, 0), GROWS, 1);
    }

    private static void idleAtTheEdge() {
        Edges.sentence(Edges.TERMS,
                "one is IDLE, whose coming to any others (nobody, too) makes just what he is worth alone.");
        Edges.sentence(23, "Who is IDLE (bits).");
        for (int n = 2; n <= 4; n++) {
            int all = (1 << n) - 1;
            GrudgeDesk x = Check.desk(n);
            Check.due("all zeros", x.idle(), all);
            for (int g = 1; g <= all; g++) {
                x.worth(g, sumOf(g));
            }
            Check.due("each what he is worth alone", x.idle(), all);
            for (int g = 1; g <= all; g++) {
                for (int off = -1; off <= 1; off += 2) {
                    x.worth(g, sumOf(g) + off);
                    Check.due("group " + g + " off by " + off, x.idle(), idleBeside(n, g));
                    x.worth(g, sumOf(g));
                }
            }
        }
        Check.due("a is worth 0 alone", Check.desk(2, 0, 9, 9).idle(), 3);
        Check.due("none", Check.desk(2, 0, 0, 1).idle(), 0);
        Edges.unmoved("idle()", GrudgeDesk::idle, 0);
    }

    private static int sumOf(int group) {
        int[] alone = {-3, 5, 0, 7};
        int sum = 0;
        for (int p = 0; p < 4; p++) {
            sum += (group >> p & 1) * alone[p];
        }
        return sum;
    }

    /** Worked out from the words: a group's worth off by some meets each one's coming that has to do with it. */
    private static int idleBeside(int n, int off) {
        int idle = 0;
        for (int p = 0; p < n; p++) {
            boolean met = false;
            for (int g = 0; g < 1 << n; g++) {
                if ((g >> p & 1) == 0) {
                    int change = (off == (g | 1 << p) ? 1 : 0) - (off == g ? 1 : 0) - (off == 1 << p ? 1 : 0);
                    met |= change != 0;
                }
            }
            idle |= met ? 0 : 1 << p;
        }
        return idle;
    }

    private static void alikeAtTheEdge() {
        Edges.sentence(Edges.TERMS, "ALIKE: two are, if with any others (nobody, too) either is worth the same.");
        for (int n = 2; n <= 4; n++) {
            int all = (1 << n) - 1;
            GrudgeDesk x = Check.desk(n);
            for (int p = 0; p < n; p++) {
                Check.due("all zeros", x.alike(p), all & ~(1 << p));
            }
            for (int g = 1; g <= all; g++) {
                x.worth(g, 1);
                for (int p = 0; p < n; p++) {
                    // those on the same side of the one group that is unlike
                    int side = (g >> p & 1) == 1 ? g : all & ~g;
                    Check.due("group " + g + ": alike(" + p + ")", x.alike(p), side & ~(1 << p));
                }
                x.worth(g, 0);
            }
        }
    }

    private static void alikeRefused() {
        Edges.sentence(24, "Who is ALIKE with one (bits; not that one). NONE.");
        for (int n = 2; n <= 4; n++) {
            int people = n;
            for (int one : Edges.outside(0, n - 1)) {
                Edges.unmoved("alike(" + one + ") of " + n, () -> Edges.busy(people), x -> x.alike(one), Check.NONE);
            }
            Check.due("the last of " + n, Check.desk(n).alike(n - 1), (1 << n - 1) - 1);
        }
        Edges.unmoved("alike(0)", x -> x.alike(0), 0);
    }

    private static void greatWorths() {
        Edges.sentence(Edges.TERMS, "WORTH of each GROUP: -999 .. 999 (0 at first).");
        kind("999 and 999", Check.desk(2, 999, 999, 999), CONVEX, 1);
        kind("999 and 999", Check.desk(2, 999, 999, 999), ADDS, 1);
        kind("-999 and -999", Check.desk(2, -999, -999, -999), CONVEX, -5);
        kind("-999 and -999", Check.desk(2, -999, -999, -999), ADDS, -5);
        kind("999 down to -999", Check.desk(2, -999, 999, -999), GROWS, 2);
        Check.due("idle at the edges", Check.desk(2, 999, -999, 0).idle(), 3);
        Check.due("alike at the edges", Check.desk(2, 999, 999, -999).alike(0), 2);
        Check.due("unlike at the edges", Check.desk(2, 999, 998, -999).alike(0), 0);
    }
}
