import java.io.IOException;
import java.nio.file.Files;
import java.nio.file.Path;
import java.util.Map;
import java.util.Set;
import java.util.TreeMap;
import java.util.TreeSet;
import java.util.function.Supplier;
import java.util.function.ToLongFunction;

/**
 * What the tests of edges share: the sentence of the document that is tested,
 * numbers just outside of a range, and twins: two desks told alike, of which
 * one is called, so that all can be seen that the call has changed.
 */
final class Edges {
    /** Stands for the document's terms, which belong to no promise. */
    static final int TERMS = 0;

    private static final int[] WORTHS = {3, -5, 30, 7, 40, 50, 61, -11, 17, 23, 70, 33, 81, 90, 120};
    private static final int[] OTHER_WORTHS = {-21, 22, -23, 24, 25, 26, 27, 28, 29, 30, 31, 32, 33, 34, 35};
    private static final String TAPE = "more ab 5;swap a b";
    private static final int FULL_ROW = 30;

    private static final int PROMISES = 39;

    /** By the promise. */
    private static final Map<Integer, Set<String>> QUOTES = new TreeMap<>();

    private Edges() {
    }

    /** What follows tests this sentence, told in the document's own words. */
    static void sentence(int promise, String words) {
        QUOTES.computeIfAbsent(promise, key -> new TreeSet<>()).add(words);
        Check.under("\"" + words + "\"");
    }

    /** All words that were told as a promise's own, or as the terms', are, and none of them is left untested. */
    static void allSaid() throws IOException {
        Check.under("the sentences");
        String document = Files.readString(Path.of("../shared/DOC.md"));
        for (int promise = TERMS; promise <= PROMISES; promise++) {
            Set<String> quotes = QUOTES.getOrDefault(promise, Set.of());
            String section = sectionOf(document, promise);
            for (String words : quotes) {
                Check.holds("promise " + promise + " says: " + words, section.contains(words));
            }
            String left = untested(section, quotes);
            Check.holds("tests of all of promise " + promise + ", not without: " + left, left.isEmpty());
        }
    }

    private static String sectionOf(String document, int promise) {
        int from = document.indexOf(promise == TERMS ? "## What it is" : "## Promise " + promise + ":");
        int to = document.indexOf(promise == PROMISES ? "## Not promised" : "## Promise " + (promise + 1) + ":");
        return document.substring(from, to);
    }

    /** Words of a section that no quote has; without headings, the face, and what the interface calls its parts. */
    private static String untested(String section, Set<String> quotes) {
        StringBuilder left = new StringBuilder(section);
        for (String words : quotes) {
            for (int at = section.indexOf(words); at >= 0; at = section.indexOf(words, at + 1)) {
                left.replace(at, at + words.length(), " ".repeat(words.length()));
            }
        }
        return left.toString().replaceAll("(?s)^## What it is.*## Terms", "")
                .replaceAll("(?m)^(##|```|Ahead of the calls).*$", "").replaceAll("(?m)^`.*?`:|^==== [0-9]", "")
                .replaceAll("\\s+", " ").replaceAll("^\\W+$", "");
    }

    /** The first that are not taken on both sides, those that wrap around to one that is, the last that there are. */
    static int[] outside(int first, int last) {
        return new int[] {first - 1, last + 1, first + (1 << 16), last - (1 << 16), Integer.MIN_VALUE,
                Integer.MAX_VALUE};
    }

    static long[] outside(long first, long last) {
        return new long[] {first - 1, last + 1, first + (1L << 32), last - (1L << 32), Long.MIN_VALUE, Long.MAX_VALUE};
    }

    /**
     * A desk with something in all that it can hold: n people, a tape, list 0
     * full, with good told shares from 0 and weights that balance from 10 on,
     * list 1 a row of 0, list 2 with just room for told shares, list 3 nothing;
     * an image of other people. Its stages have been asked for.
     */
    static GrudgeDesk busy(int n) {
        GrudgeDesk x = Check.desk(n == 2 ? 4 : 2, OTHER_WORTHS);
        x.image();
        x.people(n);
        Check.tell(x, WORTHS);
        Check.type(x, TAPE);
        x.list(0, FULL_ROW);
        for (int i = 0; i < FULL_ROW; i++) {
            x.set(0, i, 100 + i);
        }
        shareOut(x, 0, n);
        for (int g = 1; g < (1 << n) - 1; g++) {
            x.set(0, 9 + g, Integer.bitCount(g) == 1 ? 1 : 0);
        }
        x.list(1, 0);
        x.list(2, n + 1);
        shareOut(x, 2, n);
        x.stages();
        return x;
    }

    /** Ten for each, the rest for the last one. */
    private static void shareOut(GrudgeDesk x, int list, int n) {
        x.set(list, 0, 1);
        for (int p = 0; p < n; p++) {
            x.set(list, p + 1, p < n - 1 ? 10 : WORTHS[(1 << n) - 2] - 10 * (n - 1));
        }
    }

    /** A busy desk with another row in one of its lists. */
    static Supplier<GrudgeDesk> busyWith(int n, int list, long... row) {
        return () -> {
            GrudgeDesk x = busy(n);
            Check.row(x, list, row);
            return x;
        };
    }

    static GrudgeDesk busy() {
        return busy(3);
    }

    /** A call that is refused, or that only asks: nothing is another behind it. */
    static void unmoved(String what, Supplier<GrudgeDesk> made, ToLongFunction<GrudgeDesk> call, long want) {
        twins(what, made, call, want, x -> 0);
    }

    static void unmoved(String what, ToLongFunction<GrudgeDesk> call, long want) {
        unmoved(what, Edges::busy, call, want);
    }

    /** A call on one of the twins does just what another does on the other one. */
    static void twins(String what, Supplier<GrudgeDesk> made, ToLongFunction<GrudgeDesk> call, long want,
            ToLongFunction<GrudgeDesk> other) {
        GrudgeDesk x = made.get();
        GrudgeDesk y = made.get();
        Check.due(what, call.applyAsLong(x), want);
        other.applyAsLong(y);
        String left = sight(x);
        String right = sight(y);
        Check.holds(what + ": behind it " + left + ", due is " + right, left.equals(right));
    }

    /** All that calls can show. The tape and the image are used up for it. */
    private static String sight(GrudgeDesk x) {
        StringBuilder seen = new StringBuilder();
        people(x, seen);
        seen.append(" tape ").append(x.told(1));
        for (int list = 0; list < 4; list++) {
            seen.append(" list ").append(x.set(list, FULL_ROW, 0)).append(':');
            for (int i = 0; i < FULL_ROW; i++) {
                seen.append(' ').append(x.get(list, i));
            }
        }
        seen.append(" deeds ").append(x.deeds());
        people(x, seen);
        seen.append(" undo ").append(x.undo());
        people(x, seen);
        return seen.toString();
    }

    /** What a desk tells of stages is that of its worths as they are, and so that of a new desk told the same. */
    private static void people(GrudgeDesk x, StringBuilder seen) {
        GrudgeDesk fresh = Check.desk(x.told(0));
        seen.append(" people ").append(x.told(0)).append(" worths");
        for (int g = 1; g <= 15; g++) {
            seen.append(' ').append(x.worthOf(g));
            fresh.worth(g, (int) x.worthOf(g));
        }
        seen.append(" stages ").append(x.stages()).append(' ').append(x.level(1, 0)).append('/').append(x.level(1, 1));
        Check.due("stages of what is told", x.stages(), fresh.stages());
        Check.fraction("level of what is told", x.level(1, 0), x.level(1, 1), fresh.level(1, 0), fresh.level(1, 1));
        for (int p = 0; p < 4; p++) {
            seen.append(' ').append(x.fair(p, 0)).append('/').append(x.fair(p, 1));
            Check.fraction("share of what is told", x.fair(p, 0), x.fair(p, 1), fresh.fair(p, 0), fresh.fair(p, 1));
        }
    }
}
