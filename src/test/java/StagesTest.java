/** Promises 9 to 21 at chosen worths, their edges and wrong numbers. */
public final class StagesTest {
    private static final int[] WRONG = {Integer.MIN_VALUE, -2, -1, 15, 16, 99, Integer.MAX_VALUE};

    public static void main(String[] args) {
        allZero();
        threePeople();
        determinedButLesser();
        noCore();
        costs();
        turns();
        surpluses();
        wouldAndNeeds();
        wrongNumbers();
        asksAfterChanges();
        Check.end("StagesTest");
    }

    private static void allZero() {
        GrudgeDesk fresh = new GrudgeDesk();
        Check.fraction("new: fair", fresh.fair(2, 0), fresh.fair(2, 1), 0, 1);
        Check.due("new: stages", fresh.stages(), 1);
        Check.due("new: fixed", fresh.fixed(1), 126);
        for (int n = 2; n <= 4; n++) {
            GrudgeDesk x = Check.desk(n);
            int parts = (1 << (1 << n) - 1) - 2;
            Check.due("zeros: stages", x.stages(), 1);
            Check.due("zeros: fixed", x.fixed(1), parts);
            Check.fraction("zeros: level", x.level(1, 0), x.level(1, 1), 0, 1);
            Check.fraction("zeros: fair", x.fair(n - 1, 0), x.fair(n - 1, 1), 0, 1);
            Check.fraction("zeros: cost", x.cost(0), x.cost(1), 0, 1);
            Check.due("zeros: empty", x.empty(), 0);
            for (int k = 0; k < (1 << n) - 2; k++) {
                Check.due("zeros: ordered by number", x.ordered(k), k + 1);
            }
        }
    }

    private static void threePeople() {
        GrudgeDesk x = Check.desk(3, 0, 0, 30, 0, 40, 50, 60);
        int[] fixes = {104, 2, 4, 16};
        int[] levels = {0, -10, -20, -30};
        Check.due("stages", x.stages(), 4);
        for (int k = 1; k <= 4; k++) {
            Check.due("fixed", x.fixed(k), fixes[k - 1]);
            Check.fraction("level", x.level(k, 0), x.level(k, 1), levels[k - 1], 1);
        }
        int[] stages = {2, 3, 1, 4, 1, 1};
        int[] grudges = {-10, -20, 0, -30, 0, 0};
        int[] order = {3, 5, 6, 1, 2, 4};
        for (int g = 1; g <= 6; g++) {
            Check.due("stageOf", x.stageOf(g), stages[g - 1]);
            Check.fraction("grudge", x.grudge(g, 0), x.grudge(g, 1), grudges[g - 1], 1);
            Check.due("ordered", x.ordered(g - 1), order[g - 1]);
        }
        for (int p = 0; p < 3; p++) {
            Check.fraction("fair", x.fair(p, 0), x.fair(p, 1), 10 * (p + 1), 1);
        }
        x = Check.desk(3, 0, 0, 0, 0, 0, 0, 1);
        Check.fraction("thirds", x.fair(1, 0), x.fair(1, 1), 1, 3);
        Check.fraction("level of thirds", x.level(1, 0), x.level(1, 1), -1, 3);
        Check.due("singles first", x.fixed(1), 2 + 4 + 16);
        Check.due("pairs then", x.fixed(2), 8 + 32 + 64);
        Check.fraction("their level", x.level(2, 0), x.level(2, 1), -2, 3);
    }

    /** The first stage determines grudges that are less: later stages fix them, not it. */
    private static void determinedButLesser() {
        GrudgeDesk x = Check.desk(2, 5, -3, 9);
        Check.due("two people: one stage", x.stages(), 1);
        Check.fraction("two people: below 0", x.level(1, 0), x.level(1, 1), -7, 2);
        x = Check.desk(3, 10, 0, 0, 0, 0, -20, 10);
        Check.due("complements: stages", x.stages(), Check.desk(3, 0, 0, -10, 0, -10, -20, 0).stages());
        x = Check.desk(4, 0, 0, 0, 0, 0, 0, 0, 0, 0, 0, 0, 0, 0, 0, 4);
        Check.due("four: singles", x.fixed(1), 2 + 4 + 16 + 256);
        Check.due("four: stages", x.stages(), 3);
        Check.due("four: triples last", x.fixed(3), 1 << 7 | 1 << 11 | 1 << 13 | 1 << 14);
    }

    private static void noCore() {
        GrudgeDesk x = Check.desk(3, 0, 0, 30, 0, 40, 50, 59);
        Check.due("empty", x.empty(), 1);
        x.worth(7, 60);
        Check.due("just a core", x.empty(), 0);
        x = Check.desk(2, 1, 0, 0);
        Check.due("two, empty", x.empty(), 1);
        x = Check.desk(2, 1, -1, 0);
        Check.due("two, just a core", x.empty(), 0);
    }

    private static void costs() {
        GrudgeDesk x = Check.desk(4, 999, 999, 999, 999, 999, 999, 999, 999, 999, 999, 999, 999, 999, 999, -999);
        Check.fraction("cost above any worth", x.cost(0), x.cost(1), 3996, 1);
        x = Check.desk(4, 0, 0, 0, 0, 0, 0, 10, 0, 0, 0, 10, 0, 10, 10, 0);
        Check.fraction("cost by triples", x.cost(0), x.cost(1), 40, 3);
        x = Check.desk(4, -9, -9, -9, -9, -9, -9, -9, -9, -9, -9, -9, -9, -9, -9, 0);
        Check.fraction("cost below 0", x.cost(0), x.cost(1), -12, 1);
        x = Check.desk(2, 5, -3, 9);
        Check.fraction("cost of two", x.cost(0), x.cost(1), 2, 1);
        x = Check.desk(3, 0, 0, 5, 0, 5, 5, 100);
        Check.fraction("cost below what all are worth", x.cost(0), x.cost(1), 15, 2);
    }

    private static void turns() {
        GrudgeDesk x = Check.desk(3, 1, 2, 30, 4, 40, 50, 61);
        Check.fraction("byTurns a", x.byTurns(0, 0), x.byTurns(0, 1), 44, 3);
        Check.fraction("byTurns b", x.byTurns(1, 0), x.byTurns(1, 1), 121, 6);
        Check.fraction("byTurns c", x.byTurns(2, 0), x.byTurns(2, 1), 157, 6);
        x = Check.desk(2, 0, 0, -1);
        Check.fraction("byTurns below 0", x.byTurns(1, 0), x.byTurns(1, 1), -1, 2);
    }

    private static void surpluses() {
        GrudgeDesk x = Check.desk(2, 5, -3, 9);
        Check.fraction("surplus of two", x.surplus(0, 1, 0), x.surplus(0, 1, 1), -7, 2);
        x = Check.desk(4, 3, 9, 1, 4, 30, 2, 12, 8, 5, 14, 18, 11, 20, 26, 40);
        for (int p = 0; p < 4; p++) {
            for (int q = 0; q < 4; q++) {
                if (p != q) {
                    Check.fraction("fair shares have like surpluses", x.surplus(p, q, 0), x.surplus(p, q, 1),
                            x.surplus(q, p, 0), x.surplus(q, p, 1));
                }
            }
            Check.due("one twice", x.surplus(p, p, 0), Check.NO);
        }
    }

    private static void wouldAndNeeds() {
        GrudgeDesk x = Check.desk(3, 0, 0, 30, 0, 40, 50, 50);
        Check.fraction("would", x.would(7, 90, 0, 0), x.would(7, 90, 0, 1), 20, 1);
        Check.fraction("would as it is", x.would(7, 50, 2, 0), x.would(7, 50, 2, 1), 80, 3);
        Check.due("would 999", x.would(7, 999, 0, 1), 1);
        Check.due("would -999", x.would(7, -999, 0, 0) == Check.NO ? 1 : 0, 0);
        Check.due("would 1000", x.would(7, 1000, 0, 0), Check.NO);
        Check.due("would -1000", x.would(7, -1000, 0, 0), Check.NO);
        Check.due("nothing has changed", x.worthOf(7), 50);
        Check.due("fair as ahead", x.fair(2, 0), 80);
        Check.due("needs what it is", x.needs(7, 2, 26), 50);
        Check.due("needs one more", x.needs(7, 2, 27), 51);
        Check.due("needs ten more", x.needs(7, 2, 30), 60);
        Check.due("needs below 0", x.needs(7, 2, Integer.MIN_VALUE), 50);
        Check.due("needs too much", x.needs(7, 2, Integer.MAX_VALUE), Check.NO);
        GrudgeDesk y = Check.desk(2, 0, 0, 0);
        Check.due("30 more", y.needs(3, 0, 15), 30);
        Check.due("31 more", y.needs(3, 0, 16), Check.NO);
        y.worth(3, 990);
        Check.due("up to 999", y.needs(3, 0, 499), 998);
        Check.due("beyond 999", y.needs(3, 0, 500), Check.NO);
        y.worth(3, 999);
        Check.due("999 itself", y.needs(3, 0, 499), 999);
        y.worth(3, -999);
        Check.due("from -999", y.needs(3, 0, -499), -998);
        Check.due("another's worth takes away", y.needs(2, 0, -499), Check.NO);
        Check.due("one's own gives", y.needs(1, 0, -499), 1);
    }

    private static void wrongNumbers() {
        GrudgeDesk x = Check.desk(3, 1, 2, 3, 4, 5, 6, 7);
        Check.due("level(0)", x.level(0, 0), Check.NO);
        Check.due("fixed(0)", x.fixed(0), Check.NONE);
        Check.due("level behind the last", x.level(x.stages() + 1, 0), Check.NO);
        Check.due("fixed behind the last", x.fixed(x.stages() + 1), Check.NONE);
        Check.due("stageOf(0)", x.stageOf(0), Check.NONE);
        Check.due("stageOf(all)", x.stageOf(7), Check.NONE);
        Check.due("grudge(0)", x.grudge(0, 0), Check.NO);
        Check.due("grudge(all)", x.grudge(7, 0), Check.NO);
        Check.due("fair(3)", x.fair(3, 0), Check.NO);
        Check.due("ordered(6)", x.ordered(6), Check.NONE);
        Check.due("byTurns(3)", x.byTurns(3, 0), Check.NO);
        Check.due("surplus(3, 0)", x.surplus(3, 0, 0), Check.NO);
        Check.due("surplus(0, 3)", x.surplus(0, 3, 0), Check.NO);
        Check.due("would of group 0", x.would(0, 1, 0, 0), Check.NO);
        Check.due("would of group 8", x.would(8, 1, 0, 0), Check.NO);
        Check.due("would of one 3", x.would(1, 1, 3, 0), Check.NO);
        Check.due("needs of group 0", x.needs(0, 0, -100), Check.NO);
        Check.due("needs of one 3", x.needs(1, 3, -100), Check.NO);
        for (int wrong : WRONG) {
            Check.due("level(" + wrong + ")", x.level(wrong, 0), Check.NO);
            Check.due("fixed(" + wrong + ")", x.fixed(wrong), Check.NONE);
            Check.due("stageOf(" + wrong + ")", x.stageOf(wrong), Check.NONE);
            Check.due("fair(" + wrong + ")", x.fair(wrong, 0), Check.NO);
            Check.due("grudge(" + wrong + ")", x.grudge(wrong, 0), Check.NO);
            Check.due("ordered(" + wrong + ")", x.ordered(wrong), Check.NONE);
            Check.due("byTurns(" + wrong + ")", x.byTurns(wrong, 0), Check.NO);
            Check.due("surplus(" + wrong + ", 0)", x.surplus(wrong, 0, 0), Check.NO);
            Check.due("surplus(0, " + wrong + ")", x.surplus(0, wrong, 0), Check.NO);
            Check.due("would(" + wrong + ")", x.would(wrong, 1, 0, 0), Check.NO);
            Check.due("would one " + wrong, x.would(1, 1, wrong, 0), Check.NO);
            Check.due("needs(" + wrong + ")", x.needs(wrong, 0, -100), Check.NO);
            Check.due("needs one " + wrong, x.needs(1, wrong, -100), Check.NO);
            wrongPart(x, wrong);
        }
        wrongPart(x, 2);
    }

    private static void wrongPart(GrudgeDesk x, int part) {
        Check.due("level part " + part, x.level(1, part), Check.NO);
        Check.due("fair part " + part, x.fair(0, part), Check.NO);
        Check.due("grudge part " + part, x.grudge(1, part), Check.NO);
        Check.due("cost part " + part, x.cost(part), Check.NO);
        Check.due("byTurns part " + part, x.byTurns(0, part), Check.NO);
        Check.due("surplus part " + part, x.surplus(0, 1, part), Check.NO);
        Check.due("would part " + part, x.would(1, 1, 0, part), Check.NO);
    }

    /** Stages are those of the worths as they are now, whatever was asked ahead. */
    private static void asksAfterChanges() {
        GrudgeDesk x = Check.desk(3, 0, 0, 30, 0, 40, 50, 60);
        Check.due("ahead", x.stages(), 4);
        x.image();
        x.worth(7, 50);
        Check.fraction("behind worth", x.level(1, 0), x.level(1, 1), 20, 3);
        x.undo();
        Check.fraction("behind undo", x.level(1, 0), x.level(1, 1), 0, 1);
        Check.deeds(x, "more abc 30");
        Check.fraction("behind deeds", x.level(1, 0), x.level(1, 1), -20, 1);
        x.people(2);
        Check.due("behind people", x.stages(), 1);
        Check.due("behind people, parts", x.fixed(1), 6);
        Check.due("a part of three is none of two", x.stageOf(3), Check.NONE);
        x.people(4);
        Check.due("behind people(4)", x.fixed(1), (1 << 15) - 2);
    }
}
