import java.util.ArrayList;
import java.util.Arrays;
import java.util.List;

/**
 * The stages found from the other side: not by what weights prove, but by all
 * corners of the shares by which the greatest grudge is least.
 */
final class Oracle {
    final int n;
    final int all;
    final int[] v;
    final List<Ratio> levels = new ArrayList<>();
    final List<Integer> fixes = new ArrayList<>();
    Ratio[] fair;

    Oracle(int n, int[] v) {
        this.n = n;
        this.all = (1 << n) - 1;
        this.v = v;
    }

    Oracle solve() {
        List<Ratio[]> ties = new ArrayList<>();
        ties.add(equation(all, 0, Ratio.of(v[all])));
        int open = (1 << all) - 2;
        while (open != 0) {
            open &= ~closeStage(ties, open);
        }
        return this;
    }

    /** The row: shares of the group + e's factor times e = right. */
    private Ratio[] equation(int group, int ofE, Ratio right) {
        Ratio[] row = new Ratio[n + 2];
        for (int p = 0; p < n; p++) {
            row[p] = (group >> p & 1) == 1 ? Ratio.ONE : Ratio.ZERO;
        }
        row[n] = Ratio.of(ofE);
        row[n + 1] = right;
        return row;
    }

    private int closeStage(List<Ratio[]> ties, int open) {
        List<Integer> parts = new ArrayList<>();
        for (int g = 1; g < all; g++) {
            if ((open >> g & 1) == 1) {
                parts.add(g);
            }
        }
        int missing = n + 1 - echelon(ties, n + 1).size();
        List<Ratio[]> corners = new ArrayList<>();
        collectCorners(ties, parts, 0, missing, new ArrayList<>(), corners);
        Ratio least = null;
        for (Ratio[] corner : corners) {
            least = least == null || corner[n].compareTo(least) < 0 ? corner[n] : least;
        }
        int fixed = 0;
        for (int g : parts) {
            boolean always = true;
            for (Ratio[] corner : corners) {
                always &= corner[n].compareTo(least) != 0 || grudge(corner, g).compareTo(least) == 0;
            }
            if (always) {
                fixed |= 1 << g;
                ties.add(equation(g, 0, Ratio.of(v[g]).minus(least)));
            }
        }
        levels.add(least);
        fixes.add(fixed);
        fair = Arrays.copyOf(corners.get(0), n);
        return fixed;
    }

    private void collectCorners(List<Ratio[]> ties, List<Integer> parts, int from, int missing,
            List<Ratio[]> chosen, List<Ratio[]> corners) {
        if (missing == 0) {
            List<Ratio[]> rows = new ArrayList<>(ties);
            rows.addAll(chosen);
            List<Ratio[]> solved = echelon(rows, n + 1);
            if (solved.size() == n + 1) {
                Ratio[] corner = new Ratio[n + 1];
                for (int k = 0; k <= n; k++) {
                    corner[k] = solved.get(k)[n + 1];
                }
                if (isAllowed(corner, parts)) {
                    corners.add(corner);
                }
            }
            return;
        }
        for (int k = from; k < parts.size(); k++) {
            int g = parts.get(k);
            chosen.add(equation(g, 1, Ratio.of(v[g])));
            collectCorners(ties, parts, k + 1, missing - 1, chosen, corners);
            chosen.remove(chosen.size() - 1);
        }
    }

    private boolean isAllowed(Ratio[] corner, List<Integer> parts) {
        for (int g : parts) {
            if (grudge(corner, g).compareTo(corner[n]) > 0) {
                return false;
            }
        }
        return true;
    }

    Ratio grudge(Ratio[] shares, int group) {
        Ratio sum = Ratio.of(v[group]);
        for (int p = 0; p < n; p++) {
            if ((group >> p & 1) == 1) {
                sum = sum.minus(shares[p]);
            }
        }
        return sum;
    }

    /** Least worth of all with a core: the corner of shares with no grudge above 0 that has the least sum. */
    Ratio cost() {
        Ratio[] least = new Ratio[1];
        cheapest(1, new ArrayList<>(), least);
        return least[0];
    }

    private void cheapest(int from, List<Ratio[]> chosen, Ratio[] least) {
        if (chosen.size() == n) {
            List<Ratio[]> rows = new ArrayList<>(chosen);
            rows.add(equation(0, 1, Ratio.ZERO));
            List<Ratio[]> solved = echelon(rows, n + 1);
            if (solved.size() < n + 1) {
                return;
            }
            Ratio sum = Ratio.ZERO;
            Ratio[] shares = new Ratio[n];
            for (int p = 0; p < n; p++) {
                shares[p] = solved.get(p)[n + 1];
                sum = sum.plus(shares[p]);
            }
            for (int g = 1; g < all; g++) {
                if (grudge(shares, g).compareTo(Ratio.ZERO) > 0) {
                    return;
                }
            }
            least[0] = least[0] == null || sum.compareTo(least[0]) < 0 ? sum : least[0];
            return;
        }
        for (int g = from; g < all; g++) {
            chosen.add(equation(g, 0, Ratio.of(v[g])));
            cheapest(g + 1, chosen, least);
            chosen.remove(chosen.size() - 1);
        }
    }

    /** The rows reduced, those with nothing left dropped; fewer rows than unknowns, if there is no single answer. */
    private static List<Ratio[]> echelon(List<Ratio[]> rows, int unknowns) {
        List<Ratio[]> left = new ArrayList<>();
        for (Ratio[] row : rows) {
            left.add(row.clone());
        }
        List<Ratio[]> done = new ArrayList<>();
        for (int c = 0; c < unknowns; c++) {
            Ratio[] pivot = null;
            for (Ratio[] row : left) {
                if (!row[c].isZero()) {
                    pivot = row;
                    break;
                }
            }
            if (pivot == null) {
                continue;
            }
            left.remove(pivot);
            Ratio head = pivot[c];
            for (int k = 0; k < pivot.length; k++) {
                pivot[k] = pivot[k].by(head);
            }
            clearColumn(left, pivot, c);
            clearColumn(done, pivot, c);
            done.add(pivot);
        }
        return done;
    }

    private static void clearColumn(List<Ratio[]> rows, Ratio[] pivot, int c) {
        for (Ratio[] row : rows) {
            Ratio factor = row[c];
            for (int k = 0; k < row.length && !factor.isZero(); k++) {
                row[k] = row[k].minus(factor.times(pivot[k]));
            }
        }
    }
}
