import java.util.ArrayList;
import java.util.Arrays;
import java.util.HashMap;
import java.util.List;
import java.util.Map;
import java.util.function.IntPredicate;
import java.util.regex.Matcher;
import java.util.regex.Pattern;

/**
 * The document written down a second time, call by call, as plainly as its words
 * go and with no thought of speed; its stages are those of Oracle. ModelTest holds
 * the two against one another. Its public methods are those of the face.
 */
final class Model {
    private static final int NONE = -1, BAD = -2, STATE = -3, FULL = -4, NOT_ONE = -5;
    private static final int NOTHING = -11, BEYOND = -13, BELOW = -14, FINE = 0;
    private static final long NO = Long.MIN_VALUE;
    private static final Map<String, Oracle> SOLVED = new HashMap<>();

    private int[] v = new int[8];
    private int[] image = null;
    private String tape = "";
    private final long[][] lists = new long[4][];

    // ---- what is told

    public int people(int n) {
        if (n < 2 || n > 4) {
            return BAD;
        }
        int was = n();
        v = new int[1 << n];
        return was;
    }

    public long worth(int group, int worth) {
        if (!isGroup(group) || Math.abs((long) worth) > 999) {
            return NO;
        }
        int was = v[group];
        v[group] = worth;
        return was;
    }

    public long worthOf(int group) {
        return isGroup(group) ? v[group] : NO;
    }

    public int feed(int letter) {
        if (letter < 1 || letter > 127) {
            return BAD;
        }
        if (tape.length() == 100) {
            return FULL;
        }
        tape += (char) letter;
        return tape.length();
    }

    public int clear() {
        int had = tape.length();
        tape = "";
        return had;
    }

    public int deeds() {
        String text = tape;
        tape = "";
        int from = 0;
        for (String deed : text.split(";", -1)) {
            int fault = fault(deed);
            if (fault >= 0) {
                return -100 - (from + fault);
            }
            from += deed.length() + 1;
        }
        int done = 0;
        for (String deed : text.split(";")) {
            done += isDone(deed.split(" ")) ? 1 : 0;
        }
        return done;
    }

    public int told(int what) {
        return switch (what) {
            case 0 -> n();
            case 1 -> tape.length();
            case 2 -> v.length - 1;
            case 3 -> (int) Arrays.stream(v).filter(worth -> worth < 0).count();
            default -> NONE;
        };
    }

    // ---- stages, fair shares

    public int stages() {
        return solved(v).levels.size();
    }

    public long level(int k, int part) {
        return k < 1 || k > stages() || !isPlace(part) ? NO : solved(v).levels.get(k - 1).part(part);
    }

    public int fixed(int k) {
        return k < 1 || k > stages() ? NONE : solved(v).fixes.get(k - 1);
    }

    public int stageOf(int group) {
        int stage = NONE;
        for (int k = 1; k <= stages(); k++) {
            stage = isPart(group) && (fixed(k) & 1 << group) != 0 ? k : stage;
        }
        return stage;
    }

    public long fair(int one, int part) {
        return isOne(one) && isPlace(part) ? solved(v).fair[one].part(part) : NO;
    }

    public long grudge(int group, int part) {
        return isPart(group) && isPlace(part) ? grudge(solved(v).fair, group).part(part) : NO;
    }

    public int ordered(int k) {
        return k < 0 || k >= all() - 1 ? NONE : inOrder(solved(v).fair).get(k);
    }

    public int empty() {
        return solved(v).levels.get(0).compareTo(Ratio.ZERO) > 0 ? 1 : 0;
    }

    public long cost(int part) {
        return isPlace(part) ? solved(v).cost().part(part) : NO;
    }

    public long byTurns(int one, int part) {
        if (!isOne(one) || !isPlace(part)) {
            return NO;
        }
        long added = 0;
        List<List<Integer>> orders = orders(n());
        for (List<Integer> order : orders) {
            int come = 0;
            for (int p : order) {
                added += p == one ? v[come | 1 << p] - v[come] : 0;
                come |= 1 << p;
            }
        }
        return Ratio.of(added, orders.size()).part(part);
    }

    public long surplus(int one, int other, int part) {
        if (!isOne(one) || !isOne(other) || one == other || !isPlace(part)) {
            return NO;
        }
        for (int group : inOrder(solved(v).fair)) {
            if (isIn(one, group) && !isIn(other, group)) {
                return grudge(group, part);
            }
        }
        throw new IllegalStateException("nobody is with one and without another");
    }

    public long would(int group, int worth, int one, int part) {
        if (!isGroup(group) || Math.abs((long) worth) > 999 || !isOne(one) || !isPlace(part)) {
            return NO;
        }
        return fairWere(group, worth)[one].part(part);
    }

    public long needs(int group, int one, int g) {
        if (!isGroup(group) || !isOne(one)) {
            return NO;
        }
        for (int worth = v[group]; worth <= Math.min(999, v[group] + 30); worth++) {
            if (fairWere(group, worth)[one].compareTo(Ratio.of(g)) >= 0) {
                return worth;
            }
        }
        return NO;
    }

    // ---- kinds of worth

    public int is(int what) {
        int group = against(what);
        return group == NONE ? NONE : group == NOT_ONE ? 1 : 0;
    }

    public int idle() {
        return who(p -> {
            boolean just = true;
            for (int others = 0; others <= all(); others++) {
                just &= isIn(p, others) || v[others | 1 << p] == v[others] + v[1 << p];
            }
            return just;
        });
    }

    public int alike(int one) {
        return !isOne(one) ? NONE : who(p -> {
            boolean same = p != one;
            for (int others = 0; others <= all(); others++) {
                same &= isIn(p, others) || isIn(one, others) || v[others | 1 << p] == v[others | 1 << one];
            }
            return same;
        });
    }

    public int against(int what) {
        if (what < 0 || what > 2) {
            return NONE;
        }
        int least = Integer.MAX_VALUE;
        for (int s = 1; s <= all(); s++) {
            for (int t = 1; t <= all(); t++) {
                int together = v[s] + v[t];
                if (what == 0 && v[s | t] + v[s & t] < together || what == 1 && (s & t) == 0 && v[s | t] < together) {
                    least = Math.min(least, Math.min(s, t));
                }
                if (what == 2 && (s | t) == t && v[t] < v[s]) {
                    least = Math.min(least, s);
                }
            }
        }
        return least == Integer.MAX_VALUE ? NOT_ONE : least;
    }

    // ---- told shares

    public long grudgeBy(int list, int i, int group, int part) {
        return !isPart(group) || !isPlace(part) || sharesAt(list, i) != FINE ? NO
                : grudge(toldShares(list, i), group).part(part);
    }

    public int shares(int list, int i) {
        if (sharesAt(list, i) != FINE) {
            return sharesAt(list, i);
        }
        Ratio[] shares = toldShares(list, i);
        boolean none = true;
        for (int group = 1; group < all(); group++) {
            none &= grudge(shares, group).compareTo(Ratio.ZERO) <= 0;
        }
        return !areGood(shares) ? 0 : none ? 2 : 1;
    }

    public int orderedBy(int list, int i, int k) {
        if (sharesAt(list, i) != FINE) {
            return sharesAt(list, i);
        }
        return k < 0 || k >= all() - 1 ? NONE : inOrder(toldShares(list, i)).get(k);
    }

    public int better(int list, int i, int other, int j) {
        if (sharesAt(list, i) != FINE) {
            return sharesAt(list, i);
        }
        if (sharesAt(other, j) != FINE) {
            return sharesAt(other, j);
        }
        Ratio[] one = toldShares(list, i);
        Ratio[] others = toldShares(other, j);
        for (int k = 0; k < all() - 1; k++) {
            int unlike = grudge(one, inOrder(one).get(k)).compareTo(grudge(others, inOrder(others).get(k)));
            if (unlike != 0) {
                return unlike < 0 ? 1 : 2;
            }
        }
        return 0;
    }

    public int judge(int list, int i) {
        if (sharesAt(list, i) != FINE) {
            return sharesAt(list, i);
        }
        Ratio[] shares = toldShares(list, i);
        if (!areGood(shares)) {
            return 0;
        }
        int first = Integer.MAX_VALUE;
        for (int group = 1; group < all(); group++) {
            if (!grudge(shares, group).equals(grudge(solved(v).fair, group))) {
                first = Math.min(first, stageOf(group));
            }
        }
        return first == Integer.MAX_VALUE ? NOT_ONE : first;
    }

    public int lay(int list, int i) {
        if (rowAt(list) != FINE) {
            return rowAt(list);
        }
        Ratio[] fair = solved(v).fair;
        long below = Ratio.commonBelow(fair);
        for (int k = 0; k <= n(); k++) {
            long place = (long) i + k;
            if (i < 0 || place >= lists[list].length) {
                return BEYOND;
            }
            lists[list][(int) place] = k == 0 ? below : fair[k - 1].times(Ratio.of(below)).above();
        }
        return n() + 1;
    }

    // ---- weights

    public long proof(int list, int i, int part) {
        return !isPlace(part) || tilts(list, i) != NOT_ONE ? NO : proven(list, i).part(part);
    }

    public int proves(int list, int i) {
        if (weightsAt(list, i) != FINE) {
            return weightsAt(list, i);
        }
        return tilts(list, i) == NOT_ONE && proven(list, i).equals(solved(v).levels.get(0)) ? 1 : 0;
    }

    public int tilts(int list, int i) {
        if (weightsAt(list, i) != FINE) {
            return weightsAt(list, i);
        }
        if (sumOfWeights(list, i, all()) == 0) {
            return 9;
        }
        for (int p = 1; p < n(); p++) {
            if (sumOfWeights(list, i, 1 << p) != sumOfWeights(list, i, 1)) {
                return p;
            }
        }
        return NOT_ONE;
    }

    // ---- rows, the image

    public int list(int list, int n) {
        if (list < 0 || list > 3) {
            return NONE;
        }
        if (n > 30) {
            return BAD;
        }
        if (n < 0) {
            return BELOW;
        }
        lists[list] = new long[n];
        return 1;
    }

    public int set(int list, int i, long number) {
        if (placesAt(list, i, 1) != FINE) {
            return placesAt(list, i, 1);
        }
        lists[list][i] = number;
        return 1;
    }

    public long get(int list, int i) {
        return placesAt(list, i, 1) == FINE ? lists[list][i] : NO;
    }

    public int image() {
        image = v.clone();
        return n();
    }

    public int undo() {
        if (image == null) {
            return STATE;
        }
        v = image.clone();
        return n();
    }

    // ---- people, groups

    private int n() {
        return Integer.numberOfTrailingZeros(v.length);
    }

    private int all() {
        return v.length - 1;
    }

    private boolean isGroup(int group) {
        return group >= 1 && group <= all();
    }

    private boolean isPart(int group) {
        return isGroup(group) && group != all();
    }

    private boolean isOne(int p) {
        return p >= 0 && p < n();
    }

    private static boolean isIn(int p, int group) {
        return (group & 1 << p) != 0;
    }

    private static boolean isPlace(int part) {
        return part == 0 || part == 1;
    }

    private int who(IntPredicate is) {
        int who = 0;
        for (int p = 0; p < n(); p++) {
            who += is.test(p) ? 1 << p : 0;
        }
        return who;
    }

    // ---- deeds

    private static final Pattern LETTERS = Pattern.compile("[a-z]*");
    private static final Pattern GROUP = Pattern.compile("(?=.)a?b?c?d?");
    private static final Pattern PERSON = Pattern.compile("[a-d]");
    private static final Map<String, String> FORMS = Map.of(
            "people", " N", "worth", " G N", "more", " G N", "dual", "", "zero", "", "swap", " P P");

    /** The fault of what stands between two ; or -1: a ; is in no deed, so what ends there ends too early. */
    private static int fault(String deed) {
        String form = FORMS.get(letters(deed, 0));
        if (form == null) {
            return 0;
        }
        int at = letters(deed, 0).length();
        for (char sign : form.toCharArray()) {
            String word = letters(deed, at);
            if (sign == 'G' && !GROUP.matcher(word).matches() || sign == 'P' && !PERSON.matcher(word).matches()) {
                return at;
            }
            if (sign == ' ' && !deed.startsWith(" ", at)) {
                return at;
            }
            if (sign == 'N' && numberEnd(deed, at) < 0) {
                return deed.startsWith("-", at) ? at + 1 : at;
            }
            at = sign == ' ' ? at + 1 : sign == 'N' ? numberEnd(deed, at) : at + word.length();
        }
        return at == deed.length() ? -1 : at;
    }

    private static String letters(String text, int from) {
        Matcher found = LETTERS.matcher(text).region(from, text.length());
        return found.lookingAt() ? found.group() : "";
    }

    private static int numberEnd(String text, int from) {
        Matcher found = Pattern.compile("-?[0-9]{1,3}").matcher(text).region(from, text.length());
        return found.lookingAt() ? found.end() : -1;
    }

    private boolean isDone(String[] words) {
        int[] worths = v.clone();
        switch (words[0]) {
            case "people" -> {
                int many = Integer.parseInt(words[1]);
                return people(many) != BAD;
            }
            case "worth", "more" -> {
                int group = words[1].chars().map(letter -> 1 << letter - 'a').sum();
                if (!isGroup(group)) {
                    return false;
                }
                worths[group] = Integer.parseInt(words[2]) + (words[0].equals("more") ? v[group] : 0);
            }
            case "dual" -> {
                for (int group = 1; group < all(); group++) {
                    worths[group] = v[all()] - v[all() - group];
                }
            }
            case "zero" -> {
                for (int group = 1; group <= all(); group++) {
                    for (int p = 0; p < n(); p++) {
                        worths[group] -= isIn(p, group) ? v[1 << p] : 0;
                    }
                }
            }
            default -> {
                int p = words[1].charAt(0) - 'a';
                int q = words[2].charAt(0) - 'a';
                if (!isOne(p) || !isOne(q)) {
                    return false;
                }
                for (int group = 1; group <= all(); group++) {
                    int others = group & ~(1 << p) & ~(1 << q);
                    worths[group] = v[others | (isIn(p, group) ? 1 << q : 0) | (isIn(q, group) ? 1 << p : 0)];
                }
            }
        }
        if (Arrays.stream(worths).anyMatch(worth -> Math.abs(worth) > 999)) {
            return false;
        }
        v = worths;
        return true;
    }

    // ---- shares

    private static Oracle solved(int[] worths) {
        return SOLVED.computeIfAbsent(Arrays.toString(worths),
                key -> new Oracle(Integer.numberOfTrailingZeros(worths.length), worths.clone()).solve());
    }

    private Ratio[] fairWere(int group, int worth) {
        int[] worths = v.clone();
        worths[group] = worth;
        return solved(worths).fair;
    }

    private static List<List<Integer>> orders(int n) {
        List<List<Integer>> orders = new ArrayList<>();
        if (n == 0) {
            orders.add(List.of());
            return orders;
        }
        for (List<Integer> fewer : orders(n - 1)) {
            for (int k = 0; k < n; k++) {
                List<Integer> order = new ArrayList<>(fewer);
                order.add(k, n - 1);
                orders.add(order);
            }
        }
        return orders;
    }

    private Ratio grudge(Ratio[] shares, int group) {
        Ratio have = Ratio.ZERO;
        for (int p = 0; p < n(); p++) {
            have = isIn(p, group) ? have.plus(shares[p]) : have;
        }
        return Ratio.of(v[group]).minus(have);
    }

    private boolean areGood(Ratio[] shares) {
        return grudge(shares, all()).isZero();
    }

    private List<Integer> inOrder(Ratio[] shares) {
        List<Integer> parts = new ArrayList<>();
        for (int group = 1; group < all(); group++) {
            parts.add(group);
        }
        parts.sort((one, other) -> grudge(shares, other).compareTo(grudge(shares, one)));
        return parts;
    }

    // ---- lists

    private int rowAt(int list) {
        return list < 0 || list > 3 ? NONE : lists[list] == null ? NOTHING : FINE;
    }

    private int placesAt(int list, int i, int many) {
        if (rowAt(list) != FINE) {
            return rowAt(list);
        }
        return i < 0 || (long) i + many > lists[list].length ? BEYOND : FINE;
    }

    private int sharesAt(int list, int i) {
        int answer = placesAt(list, i, n() + 1);
        for (int k = 0; k <= n() && answer == FINE; k++) {
            long number = lists[list][i + k];
            boolean asTold = k == 0 ? number >= 1 && number <= 1000 : number >= -1000000 && number <= 1000000;
            answer = asTold ? FINE : BAD;
        }
        return answer;
    }

    private Ratio[] toldShares(int list, int i) {
        Ratio[] shares = new Ratio[n()];
        for (int p = 0; p < n(); p++) {
            shares[p] = Ratio.of(lists[list][i + 1 + p], lists[list][i]);
        }
        return shares;
    }

    private int weightsAt(int list, int i) {
        int answer = placesAt(list, i, all() - 1);
        for (int group = 1; group < all() && answer == FINE; group++) {
            long weight = lists[list][i + group - 1];
            answer = weight >= 0 && weight <= 1000 ? FINE : BAD;
        }
        return answer;
    }

    /** Of all parts with somebody of these. */
    private long sumOfWeights(int list, int i, int who) {
        long sum = 0;
        for (int group = 1; group < all(); group++) {
            sum += (group & who) != 0 ? lists[list][i + group - 1] : 0;
        }
        return sum;
    }

    private Ratio proven(int list, int i) {
        long above = -sumOfWeights(list, i, 1) * v[all()];
        for (int group = 1; group < all(); group++) {
            above += v[group] * lists[list][i + group - 1];
        }
        return Ratio.of(above, sumOfWeights(list, i, all()));
    }
}
