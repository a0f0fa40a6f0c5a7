/** The sentences about answers that hold for all calls: what is asked changes nothing. */
final class AnswerEdges {
    private AnswerEdges() {
    }

    static void all() {
        asking();
        layingOnlyItsList();
        constants();
    }

    /** Every call that asks, with numbers that it takes, on desks of two, three and four people. */
    private static void asking() {
        Edges.sentence(Edges.TERMS, "what is asked changes nothing but LISTS that are told.");
        for (int n = 2; n <= 4; n++) {
            int people = n;
            int all = (1 << n) - 1;
            for (int which = 0; which < ASKING; which++) {
                int asked = which;
                long want = ask(Edges.busy(n), asked, all);
                Check.holds("call " + which + " is taken", want != Check.NO);
                Edges.unmoved("call " + which + " of " + n, () -> Edges.busy(people), x -> ask(x, asked, all), want);
                Check.due("call " + which + " again", again(Edges.busy(n), asked, all), want);
            }
        }
    }

    private static long again(GrudgeDesk x, int which, int all) {
        for (int other = 0; other < ASKING; other++) {
            ask(x, other, all);
        }
        return ask(x, which, all);
    }

    private static final int ASKING = 29;

    private static long ask(GrudgeDesk x, int which, int all) {
        switch (which) {
            case 0: return x.worthOf(all);
            case 1: return x.told(2);
            case 2: return x.stages();
            case 3: return x.level(1, 0);
            case 4: return x.fixed(1);
            case 5: return x.stageOf(1);
            case 6: return x.fair(0, 0);
            case 7: return x.grudge(1, 0);
            case 8: return x.ordered(0);
            case 9: return x.empty();
            case 10: return x.cost(0);
            case 11: return x.byTurns(0, 0);
            case 12: return x.surplus(0, 1, 0);
            case 13: return x.would(all, 99, 1, 0);
            case 14: return x.needs(all, 1, -999);
            case 15: return x.is(0);
            case 16: return x.idle();
            case 17: return x.alike(0);
            case 18: return x.against(1);
            case 19: return x.grudgeBy(0, 0, 1, 0);
            case 20: return x.shares(0, 0);
            case 21: return x.orderedBy(0, 0, 0);
            case 22: return x.better(0, 0, 2, 0);
            case 23: return x.judge(0, 0);
            case 24: return x.proof(0, 10, 0);
            case 25: return x.proves(0, 10);
            case 26: return x.tilts(0, 10);
            case 27: return x.get(0, 29);
            default: return x.told(3);
        }
    }

    private static void layingOnlyItsList() {
        Edges.sentence(Edges.TERMS, "what is asked changes nothing but LISTS that are told.");
        for (int list : new int[] {0, 2}) {
            Edges.twins("lay(" + list + ", 0)", Edges::busy, x -> x.lay(list, 0), 4, x -> layByHand(x, list));
        }
    }

    /** Fair shares of a busy desk of three. */
    private static long layByHand(GrudgeDesk x, int list) {
        long below = 1;
        while (below * x.fair(0, 0) % x.fair(0, 1) != 0 || below * x.fair(1, 0) % x.fair(1, 1) != 0
                || below * x.fair(2, 0) % x.fair(2, 1) != 0) {
            below++;
        }
        x.set(list, 0, below);
        for (int p = 0; p < 3; p++) {
            x.set(list, p + 1, below * x.fair(p, 0) / x.fair(p, 1));
        }
        return 4;
    }

    private static void constants() {
        Edges.sentence(Edges.TERMS,
                "Answers: NONE (-1) no such number; BAD (-2) a number is not as told; STATE (-3) as told; FULL (-4);");
        Check.due("NONE", GrudgeDesk.NONE, -1);
        Check.due("BAD", GrudgeDesk.BAD, -2);
        Check.due("STATE", GrudgeDesk.STATE, -3);
        Check.due("FULL", GrudgeDesk.FULL, -4);
        Edges.sentence(Edges.TERMS, "The constants: `NO = Long.MIN_VALUE`: No such number.");
        Check.due("NO", GrudgeDesk.NO, Long.MIN_VALUE);
    }
}
