import java.util.Arrays;
import java.util.Random;
import java.util.function.Supplier;

/** Edges of promises 32 to 34: told weights, what they prove. */
final class WeightEdges {
    private static final String REFUSALS =
            "NONE: list; NOTHING; BEYOND: it ends ahead of them (or the place is below 0); "
            + "BAD: a number is not as told.";

    private WeightEdges() {
    }

    static void all() {
        lists();
        places();
        numbers();
        firstNamed();
        onlyTheirPlaces();
        parts();
        firstThatTilts();
        allZero();
        unbalanced();
        levelOrLess();
        neverMore();
        greatNumbers();
    }

    private static int partsOf(int n) {
        return (1 << n) - 2;
    }

    private static void refused(String what, Supplier<GrudgeDesk> made, int list, int i, int want) {
        String at = what + ": (" + list + ", " + i + ")";
        Edges.sentence(33, REFUSALS);
        Edges.unmoved("proves " + at, made, x -> x.proves(list, i), want);
        Edges.sentence(34, REFUSALS);
        Edges.unmoved("tilts " + at, made, x -> x.tilts(list, i), want);
        Edges.sentence(32, "or list, nothing there, no such places, a number that is not as told.");
        Edges.unmoved("proof " + at, made, x -> x.proof(list, i, 0), Check.NO);
        Edges.unmoved("proof below the line " + at, made, x -> x.proof(list, i, 1), Check.NO);
    }

    /** They stand where they are told, and balance. */
    private static void taken(String what, GrudgeDesk x, int list, int i) {
        Check.under("\"" + REFUSALS + "\"");
        String at = what + ": (" + list + ", " + i + ")";
        Check.due("tilts " + at, x.tilts(list, i), -5);
        Check.holds("proves " + at, x.proves(list, i) >= 0);
        Check.holds("proof " + at, x.proof(list, i, 0) != Check.NO && x.proof(list, i, 1) > 0);
    }

    private static long[] all(int many, long weight) {
        long[] row = new long[many];
        Arrays.fill(row, weight);
        return row;
    }

    private static void lists() {
        for (int list : Edges.outside(0, 3)) {
            refused("no list", Edges::busy, list, 0, Check.NONE);
        }
        for (int list = 0; list <= 3; list++) {
            refused("nothing at first", GrudgeDesk::new, list, 0, Check.NOTHING);
            taken("a list", Edges.busyWith(3, list, all(6, 1)).get(), list, 0);
        }
    }

    private static void places() {
        refused("a row of 0", Edges::busy, 1, 0, Check.BEYOND);
        for (int n = 2; n <= 4; n++) {
            int parts = partsOf(n);
            taken("just room for them", Edges.busyWith(n, 0, all(parts, 1)).get(), 0, 0);
            refused("one place too few", Edges.busyWith(n, 0, all(parts - 1, 1)), 0, 0, Check.BEYOND);
            for (int i : Edges.outside(0, 0)) {
                refused("another place", Edges.busyWith(n, 0, all(parts, 1)), 0, i, Check.BEYOND);
            }
            Supplier<GrudgeDesk> full = Edges.busyWith(n, 0, all(30, 1));
            taken("the last places of a full row", full.get(), 0, 30 - parts);
            for (int i : new int[] {31 - parts, 29, 30, -1, Integer.MAX_VALUE - parts + 1, Integer.MAX_VALUE,
                    Integer.MIN_VALUE}) {
                refused("a full row", full, 0, i, Check.BEYOND);
            }
        }
        Edges.sentence(34, "BEYOND: it ends ahead of them (or the place is below 0);");
        GrudgeDesk x = Edges.busy(2);
        Check.row(x, 0, 1, 1);
        Check.due("room for those of two", x.tilts(0, 0), -5);
        x.people(3);
        Check.due("no room for those of three", x.tilts(0, 0), Check.BEYOND);
    }

    private static void numbers() {
        Edges.sentence(Edges.TERMS, "TOLD WEIGHTS: of PARTS by numbers, each 0 .. 1000.");
        for (int n = 2; n <= 4; n++) {
            int parts = partsOf(n);
            taken("all 1000", Edges.busyWith(n, 0, all(parts, 1000)).get(), 0, 0);
            for (int g = 1; g <= parts; g++) {
                GrudgeDesk x = Edges.busyWith(n, 0, all(parts, 1)).get();
                for (long weight : new long[] {0, 1, 999, 1000}) {
                    x.set(0, g - 1, weight);
                    Check.holds("weight " + weight + " of " + g, x.tilts(0, 0) == (weight == 1 ? -5 : firstUnlike(g)));
                    Check.due("proves", x.proves(0, 0) < 0 ? 1 : 0, 0);
                }
                for (long weight : Edges.outside(0L, 1000L)) {
                    long[] row = all(parts, 1);
                    row[g - 1] = weight;
                    refused("weight " + weight + " of " + g, Edges.busyWith(n, 0, row), 0, 0, Check.BAD);
                }
            }
        }
    }

    /** With one group heavier or lighter: the first who is in it while a isn't, or the other way about. */
    private static int firstUnlike(int group) {
        for (int p = 1; p < 4; p++) {
            if ((group >> p & 1) != (group & 1)) {
                return p;
            }
        }
        return -5;
    }

    private static void firstNamed() {
        for (int list : Edges.outside(0, 3)) {
            refused("NONE ahead of BEYOND", Edges::busy, list, -1, Check.NONE);
            refused("NONE ahead of NOTHING", GrudgeDesk::new, list, 0, Check.NONE);
        }
        refused("NOTHING ahead of BEYOND", Edges::busy, 3, -1, Check.NOTHING);
        refused("NOTHING ahead of BEYOND", Edges::busy, 3, 30, Check.NOTHING);
        refused("BEYOND ahead of BAD, above", Edges.busyWith(3, 0, all(5, 1001)), 0, 0, Check.BEYOND);
        refused("BEYOND ahead of BAD, below", Edges.busyWith(3, 0, all(6, -1)), 0, 1, Check.BEYOND);
        refused("BEYOND ahead of BAD, place below 0", Edges.busyWith(3, 0, all(6, -1)), 0, -1, Check.BEYOND);
        refused("BAD ahead of a tilt", Edges.busyWith(3, 0, 1, 0, 0, 0, 0, 1001), 0, 0, Check.BAD);
        refused("BAD ahead of all 0", Edges.busyWith(3, 0, 0, 0, 0, 0, 0, -1), 0, 0, Check.BAD);
    }

    private static void onlyTheirPlaces() {
        Edges.sentence(Edges.TERMS, "TOLD WEIGHTS: of PARTS by numbers, each 0 .. 1000.");
        for (int n = 2; n <= 4; n++) {
            int parts = partsOf(n);
            long[] row = all(parts + 2, 1);
            row[0] = Long.MIN_VALUE;
            row[parts + 1] = Long.MAX_VALUE;
            taken("what stands ahead and behind is no matter", Edges.busyWith(n, 0, row).get(), 0, 1);
        }
    }

    private static void parts() {
        Edges.sentence(32, "What TOLD WEIGHTS PROVE. NO: part,");
        GrudgeDesk y = Edges.busy();
        // each alone: (3 - 5 + 7 - 61) / 3
        Check.fraction("each alone", y.proof(0, 10, 0), y.proof(0, 10, 1), -56, 3);
        for (int part : Edges.outside(0, 1)) {
            Edges.unmoved("proof(0, 10, " + part + ")", x -> x.proof(0, 10, part), Check.NO);
            Edges.unmoved("proof(3, 10, " + part + ")", x -> x.proof(3, 10, part), Check.NO);
        }
        Edges.unmoved("proof(0, 10, 0)", x -> x.proof(0, 10, 0), -56);
        Edges.unmoved("proof(0, 10, 1)", x -> x.proof(0, 10, 1), 3);
    }

    /** One of them is off by the least there is, at the greatest weights. */
    private static void firstThatTilts() {
        Edges.sentence(34, "The first of PEOPLE whose sum of WEIGHTS isn't that of a; -5: they BALANCE; 9: all are 0.");
        for (int n = 2; n <= 4; n++) {
            for (int p = 0; p < n; p++) {
                for (int q = p; q < n; q++) {
                    long[] row = new long[partsOf(n)];
                    for (int r = 0; r < n; r++) {
                        row[(1 << r) - 1] = r == p || r == q ? 999 : 1000;
                    }
                    GrudgeDesk x = Edges.busyWith(n, 0, row).get();
                    int want = -5;
                    for (int r = n - 1; r > 0; r--) {
                        want = row[(1 << r) - 1] != row[0] ? r : want;
                    }
                    Check.due("off are " + p + " and " + q + " of " + n, x.tilts(0, 0), want);
                    Check.due("proves then", x.proves(0, 0) == 0 || want == -5 ? 1 : 0, 1);
                    Check.due("proof then", x.proof(0, 0, 0) == Check.NO ? 1 : 0, want == -5 ? 0 : 1);
                }
            }
        }
        GrudgeDesk x = Edges.busyWith(3, 0, 0, 500, 500, 500, 500, 0).get();
        Check.due("by two ways at once", x.tilts(0, 0), -5);
        Edges.unmoved("tilts(0, 10)", y -> y.tilts(0, 10), -5);
    }

    private static void allZero() {
        for (int n = 2; n <= 4; n++) {
            Supplier<GrudgeDesk> made = Edges.busyWith(n, 0, all(partsOf(n), 0));
            Edges.sentence(34, "-5: they BALANCE; 9: all are 0.");
            Edges.unmoved("tilts of all 0", made, x -> x.tilts(0, 0), 9);
            Edges.sentence(33, "Whether that is LEVEL 1: 1, 0 (also if they don't BALANCE).");
            Edges.unmoved("proves of all 0", made, x -> x.proves(0, 0), 0);
            Edges.sentence(32, "they don't BALANCE, or list,");
            Edges.unmoved("proof of all 0", made, x -> x.proof(0, 0, 0), Check.NO);
            Edges.unmoved("proof of all 0, below", made, x -> x.proof(0, 0, 1), Check.NO);
            Edges.sentence(Edges.TERMS, "WEIGHTS of PARTS, 0 or more each, not all 0, BALANCE,");
            for (int g = 1; g <= partsOf(n); g++) {
                GrudgeDesk x = made.get();
                x.set(0, g - 1, 1);
                Check.due("one is not 0", x.tilts(0, 0), firstUnlike(g));
            }
        }
        GrudgeDesk zeros = new GrudgeDesk();
        Check.row(zeros, 0, 0, 0, 0, 0, 0, 0);
        Check.due("all worths 0, too", zeros.proves(0, 0), 0);
    }

    private static void unbalanced() {
        Edges.sentence(33, "Whether that is LEVEL 1: 1, 0 (also if they don't BALANCE).");
        // all worths 0: whatever weights there are would prove 0, which is level 1
        GrudgeDesk x = new GrudgeDesk();
        Check.row(x, 0, 1, 1, 0, 1, 0, 0);
        Check.due("they balance", x.proves(0, 0), 1);
        for (int g = 1; g <= 6; g++) {
            x.set(0, g - 1, x.get(0, g - 1) + 1);
            Check.due("they don't: " + g, x.proves(0, 0), 0);
            Check.due("no proof: " + g, x.proof(0, 0, 0), Check.NO);
            x.set(0, g - 1, x.get(0, g - 1) - 1);
        }
    }

    private static void levelOrLess() {
        Edges.sentence(33, "Whether that is LEVEL 1: 1, 0");
        GrudgeDesk x = Check.desk(3, 0, 0, 30, 0, 40, 50, 50);
        Check.row(x, 0, 0, 0, 1, 0, 1, 1);
        Check.due("level 1", x.proves(0, 0), 1);
        Check.row(x, 0, 0, 0, 1000, 0, 1000, 1000);
        Check.due("level 1 by a thousand", x.proves(0, 0), 1);
        Check.row(x, 0, 1, 0, 999, 0, 999, 1000);
        Check.due("just less", x.proves(0, 0), 0);
        Check.fraction("just less", x.proof(0, 0, 0), x.proof(0, 0, 1), 19980, 2999);
        // two ways to prove the same
        x = Check.desk(3, 20, 0, 20, 0, 20, 40, 40);
        Check.row(x, 0, 1, 0, 0, 0, 0, 1);
        Check.fraction("a and bc", x.proof(0, 0, 0), x.proof(0, 0, 1), 10, 1);
        Check.due("a and bc prove it", x.proves(0, 0), 1);
        Check.row(x, 0, 0, 0, 1, 0, 1, 1);
        Check.due("pairs don't", x.proves(0, 0), 0);
        Edges.unmoved("proves(0, 10)", y -> y.proves(0, 10), 0);
    }

    /** Weights put together from such that balance: any two groups that are all together, or each alone. */
    private static void neverMore() {
        Edges.sentence(Edges.TERMS, "(no greatest GRUDGE of GOOD SHARES is less)");
        Random random = new Random(33);
        for (int turn = 0; turn < 600; turn++) {
            int n = 2 + turn % 3;
            int all = (1 << n) - 1;
            GrudgeDesk x = Check.desk(n);
            for (int g = 1; g <= all; g++) {
                x.worth(g, random.nextInt(7) - 3);
            }
            long[] row = new long[all - 1];
            for (int times = 0; times <= turn % 4; times++) {
                int g = 1 + random.nextInt(all - 1);
                row[g - 1] += 1 + times;
                row[(all ^ g) - 1] += 1 + times;
            }
            for (int p = 0; p < n; p++) {
                row[(1 << p) - 1] += turn % 2;
            }
            Check.row(x, 0, row);
            long proven = x.proof(0, 0, 0) * x.level(1, 1);
            long level = x.level(1, 0) * x.proof(0, 0, 1);
            Check.due("they balance", x.tilts(0, 0), -5);
            Check.holds("no more than level 1 is proven", proven <= level);
            Check.due("proves", x.proves(0, 0), proven == level ? 1 : 0);
        }
    }

    private static void greatNumbers() {
        Edges.sentence(Edges.TERMS,
                "What they PROVE: WORTH of each PART times its WEIGHT, added up, less c times WORTH of ALL, by all "
                        + "WEIGHTS together");
        for (int sign = -1; sign <= 1; sign += 2) {
            for (int n = 2; n <= 4; n++) {
                GrudgeDesk x = Check.desk(n);
                int parts = partsOf(n);
                for (int g = 1; g <= parts; g++) {
                    x.worth(g, sign * 999);
                }
                x.worth(parts + 1, -sign * 999);
                Check.row(x, 0, all(parts, 1000));
                // half of the parts are with a: 999 and half of it again
                Check.fraction("weights of 1000", x.proof(0, 0, 0), x.proof(0, 0, 1), sign * 2997, 2);
            }
        }
    }
}
