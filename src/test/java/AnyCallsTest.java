import java.util.Random;

/**
 * Runs of calls with any numbers: none throws, what is answered as wrong
 * changes nothing, what is asked changes nothing, like runs answer alike.
 */
public final class AnyCallsTest {
    private static final int[] ODD = {Integer.MIN_VALUE, Integer.MAX_VALUE, -1000, 1000, 999, -999, 1 << 16, 31, 32};

    public static void main(String[] args) {
        for (int seed = 0; seed < 400; seed++) {
            run(seed);
        }
        Check.end("AnyCallsTest");
    }

    private static void run(int seed) {
        GrudgeDesk x = new GrudgeDesk();
        GrudgeDesk again = new GrudgeDesk();
        Random random = new Random(seed);
        Random same = new Random(seed);
        for (int call = 0; call < 512; call++) {
            long ahead = state(x);
            int which = random.nextInt(60);
            same.nextInt(60);
            long answer = call(x, which, random);
            Check.due("seed " + seed + ", call " + call, call(again, which, same), answer);
            boolean changes = which >= 38 || changesState(which);
            if (!changes) {
                Check.due("seed " + seed + ", call " + call + " changes nothing", state(x), ahead);
            }
        }
    }

    /** people, worth, feed, clear, deeds, lay, list, set, image and undo do. */
    private static boolean changesState(int which) {
        return which == 0 || which == 1 || which == 3 || which == 4 || which == 5
                || which == 29 || which >= 33 && which != 35;
    }

    /** All that can be seen without the calls that work much, as one number. */
    private static long state(GrudgeDesk x) {
        long sum = x.told(0) * 31L + x.told(1);
        for (int g = 1; g < 16; g++) {
            sum = sum * 31 + x.worthOf(g);
        }
        for (int list = 0; list < 4; list++) {
            for (int i = 0; i < 30; i++) {
                sum = sum * 31 + x.get(list, i);
            }
        }
        return sum;
    }

    private static int any(Random random, int from, int to) {
        int kind = random.nextInt(20);
        return kind == 0 ? ODD[random.nextInt(ODD.length)] : from + random.nextInt(to - from + 1);
    }

    private static long call(GrudgeDesk x, int which, Random r) {
        int group = any(r, 0, 16);
        int one = any(r, -1, 4);
        int part = any(r, 0, 1);
        int list = any(r, 0, 4);
        int i = any(r, -1, 8);
        switch (which) {
            case 0: return r.nextInt(4) == 0 ? x.people(any(r, 1, 5)) : 0;
            case 1: return x.worth(group, any(r, -50, 50));
            case 2: return x.worthOf(group);
            case 3: return x.feed(any(r, 0, 128));
            case 4: return x.clear();
            case 5: return x.deeds();
            case 6: return x.told(any(r, -1, 4));
            case 7: return x.stages();
            case 8: return x.level(any(r, 0, 15), part);
            case 9: return x.fixed(any(r, 0, 15));
            case 10: return x.stageOf(group);
            case 11: return x.fair(one, part);
            case 12: return x.grudge(group, part);
            case 13: return x.ordered(any(r, -1, 15));
            case 14: return x.empty();
            case 15: return x.cost(part);
            case 16: return x.byTurns(one, part);
            case 17: return x.surplus(one, any(r, 0, 4), part);
            case 18: return x.would(group, any(r, -99, 99), one, part);
            case 19: return x.needs(group, one, any(r, -9, 30));
            case 20: return x.is(any(r, -1, 3));
            case 21: return x.idle();
            case 22: return x.alike(one);
            case 23: return x.against(any(r, -1, 3));
            case 24: return x.grudgeBy(list, i, group, part);
            case 25: return x.shares(list, i);
            case 26: return x.orderedBy(list, i, any(r, -1, 15));
            case 27: return x.better(list, i, any(r, 0, 4), any(r, -1, 8));
            case 28: return x.judge(list, i);
            case 29: return x.lay(list, i);
            case 30: return x.proof(list, i, part);
            case 31: return x.proves(list, i);
            case 32: return x.tilts(list, i);
            case 33: return r.nextInt(3) == 0 ? x.list(list, any(r, -1, 31)) : 0;
            case 34: return x.set(list, i, r.nextInt(20) == 0 ? r.nextLong() : any(r, -3, 9));
            case 35: return x.get(list, i);
            case 36: return x.image();
            case 37: return x.undo();
            default: return which < 50 ? x.set(list, i, any(r, 0, 5)) : typeSome(x, r);
        }
    }

    private static long typeSome(GrudgeDesk x, Random r) {
        String[] texts = {"dual", "zero", ";", "swap a b", "more abc 9", "worth bd -20", "people 4", " ", "people 3;"};
        String text = texts[r.nextInt(texts.length)];
        long last = 0;
        for (int k = 0; k < text.length(); k++) {
            last = x.feed(text.charAt(k));
        }
        return last;
    }
}
