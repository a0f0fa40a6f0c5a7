import java.util.Random;

/** Promises 22 to 25: is, idle, alike, against. */
public final class KindsTest {
    public static void main(String[] args) {
        chosen();
        edges();
        wrongNumbers();
        atRandom();
        Check.end("KindsTest");
    }

    private static void kind(String what, GrudgeDesk x, int convex, int adds, int grows) {
        int[] want = {convex, adds, grows};
        for (int k = 0; k < 3; k++) {
            Check.due(what + ": against(" + k + ")", x.against(k), want[k]);
            Check.due(what + ": is(" + k + ")", x.is(k), want[k] == Check.NOT_ONE ? 1 : 0);
        }
    }

    private static void chosen() {
        kind("zeros", new GrudgeDesk(), -5, -5, -5);
        kind("pairs", Check.desk(3, 0, 0, 30, 0, 40, 50, 50), 3, -5, -5);
        kind("two who lose", Check.desk(2, 5, 5, 9), 1, 1, -5);
        kind("b and c", Check.desk(3, 0, 5, 5, 5, 5, 9, 20), 2, 2, -5);
        kind("below one within", Check.desk(3, 0, 4, 3, 0, 0, 4, 9), 1, 1, 2);
        kind("worth below 0 alone", Check.desk(2, -5, -4, -4), -5, -5, -5);
        kind("less, but no less than nothing", Check.desk(2, -4, -4, -6), -5, -5, 1);
        kind("only ab and cd", Check.desk(4, 0, 0, 9, 0, 0, 0, 9, 0, 0, 0, 9, 9, 9, 9, 17), 3, 3, -5);
    }

    private static void edges() {
        GrudgeDesk x = Check.desk(3, 1, 2, 3, 4, 5, 6, 7);
        Check.due("all idle", x.idle(), 7);
        x.worth(7, 8);
        Check.due("nobody idle", x.idle(), 0);
        x = Check.desk(3, -3, 2, -1, 4, 1, 10, 7);
        Check.due("a idle, worth below 0", x.idle(), 1);
        x = Check.desk(4, 0, 0, 7, 0, 0, 0, 7, 0, 0, 0, 7, 0, 0, 0, 7);
        Check.due("c and d idle", x.idle(), 12);
        Check.due("a is like b", x.alike(0), 2);
        Check.due("b is like a", x.alike(1), 1);
        Check.due("c is like d", x.alike(2), 8);
        Check.due("d is like c", x.alike(3), 4);
        x.worth(8, 1);
        Check.due("c is like none", x.alike(2), 0);
        x = Check.desk(2, 4, 4, -9);
        Check.due("two alike", x.alike(0), 2);
        x.worth(1, 5);
        Check.due("two unlike", x.alike(1), 0);
        x = Check.desk(3, 1, 1, 9, 1, 3, 4, 7);
        Check.due("alike alone, not with another", x.alike(0), 0);
    }

    private static void wrongNumbers() {
        GrudgeDesk x = new GrudgeDesk();
        int[] wrong = {-1, 3, 4, Integer.MIN_VALUE, Integer.MAX_VALUE};
        for (int w : wrong) {
            Check.due("is(" + w + ")", x.is(w), Check.NONE);
            Check.due("against(" + w + ")", x.against(w), Check.NONE);
            Check.due("alike(" + w + ")", x.alike(w), Check.NONE);
        }
        x.people(2);
        Check.due("alike(2) of two", x.alike(2), Check.NONE);
    }

    private static void atRandom() {
        Random random = new Random(22);
        for (int turn = 0; turn < 3000; turn++) {
            int n = 2 + turn % 3;
            int all = (1 << n) - 1;
            GrudgeDesk x = Check.desk(n);
            int[] v = new int[all + 1];
            int reach = turn % 7 + 1;
            for (int g = 1; g <= all; g++) {
                v[g] = random.nextInt(reach) + Integer.bitCount(g) * Integer.bitCount(g) - 2;
                x.worth(g, v[g]);
            }
            int[] least = {99, 99, 99};
            for (int s = 1; s <= all; s++) {
                for (int t = 1; t <= all; t++) {
                    int lesser = Math.min(s, t);
                    if (v[s | t] + v[s & t] < v[s] + v[t]) {
                        least[0] = Math.min(least[0], lesser);
                    }
                    if ((s & t) == 0 && v[s | t] < v[s] + v[t]) {
                        least[1] = Math.min(least[1], lesser);
                    }
                    if ((s | t) == t && v[t] < v[s]) {
                        least[2] = Math.min(least[2], s);
                    }
                }
            }
            for (int k = 0; k < 3; k++) {
                least[k] = least[k] == 99 ? Check.NOT_ONE : least[k];
            }
            kind("at random " + turn, x, least[0], least[1], least[2]);
            pairsAtRandom(x, v, n);
        }
    }

    private static void pairsAtRandom(GrudgeDesk x, int[] v, int n) {
        int idle = 0;
        for (int p = 0; p < n; p++) {
            boolean adds = false;
            int alike = 0;
            for (int q = 0; q < n; q++) {
                boolean unlike = p == q;
                for (int g = 0; g < 1 << n; g++) {
                    adds |= (g >> p & 1) == 1 && v[g] != v[g & ~(1 << p)] + v[1 << p];
                    if ((g >> p & 1) == 1 && (g >> q & 1) == 0) {
                        unlike |= v[g] != v[g & ~(1 << p) | 1 << q];
                    }
                }
                alike |= unlike ? 0 : 1 << q;
            }
            idle |= adds ? 0 : 1 << p;
            Check.due("alike(" + p + ") at random", x.alike(p), alike);
        }
        Check.due("idle at random", x.idle(), idle);
    }
}
