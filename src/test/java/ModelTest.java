import java.util.ArrayList;
import java.util.Arrays;
import java.util.HashMap;
import java.util.List;
import java.util.Map;
import java.util.Random;
import java.util.Set;
import java.util.TreeSet;

/** Runs of all calls, to the 512th of each object, every answer held against that of Model. */
public final class ModelTest {
    private static final int MOST_CALLS = 512;
    private static final int RUNS = 240;

    /** Each call of the face, and what its numbers are. */
    private static final String[] CALLS = """
            people n
            worth group v
            worthOf group
            feed letter
            clear
            deeds
            told what
            stages
            level k part
            fixed k
            stageOf group
            fair one part
            grudge group part
            ordered place
            empty
            cost part
            byTurns one part
            surplus one one part
            would group v one part
            needs group one g
            is kind
            idle
            alike one
            against kind
            grudgeBy list i group part
            shares list i
            orderedBy list i place
            better list i list i
            judge list i
            lay list i
            proof list i part
            proves list i
            tilts list i
            list list size
            set list i number
            get list i
            image
            undo
            """.split("\n");

    /** Answers that must come among the many, or the runs would not show much of a call. */
    private static final String[] DUE_TO_COME = {
        "people 2 3 4 -2", "feed 1 100 -2 -4", "clear 0 1 2", "deeds 0 1 2 3 4 -100 -105 -106", "told 0 2 3 4 7 15 -1",
        "stages 1 2 3 4 5 6 7", "fixed 2 6 126 -1", "stageOf 1 2 3 4 5 -1", "ordered 1 7 14 -1", "empty 0 1",
        "is 0 1 -1", "idle 0 1 2 4 7 15", "alike 0 1 2 4 6 14 -1", "against 1 2 3 -5 -1",
        "shares 0 1 2 -1 -2 -11 -13", "orderedBy 1 7 14 -1 -2 -11 -13", "better 0 1 2 -1 -2 -11 -13",
        "judge 0 1 2 3 -5 -1 -2 -11 -13", "lay 3 4 5 -1 -11 -13", "proves 0 1 -1 -2 -11 -13",
        "tilts 1 2 3 9 -5 -1 -2 -11 -13", "list 1 -1 -2 -14", "set 1 -1 -11 -13", "image 2 3 4", "undo 2 3 4 -3"};

    private static final Map<String, Set<Long>> SEEN = new HashMap<>();

    private final Random random;
    private final int run;
    private final GrudgeDesk desk = new GrudgeDesk();
    private final Model model = new Model();
    private int calls = 0;

    private ModelTest(int run) {
        this.run = run;
        this.random = new Random(run);
    }

    public static void main(String[] args) throws ReflectiveOperationException {
        int runs = args.length > 0 ? Integer.parseInt(args[0]) : RUNS;
        for (int run = 0; run < runs; run++) {
            new ModelTest(run).go();
        }
        allCame();
        Check.end("ModelTest");
    }

    private static void allCame() throws ReflectiveOperationException {
        Check.holds("all calls of the face came", SEEN.keySet().equals(Calls.names()));
        for (String due : DUE_TO_COME) {
            String[] words = due.split(" ");
            for (int k = 1; k < words.length; k++) {
                Check.holds(words[0] + " answered " + words[k] + ", too",
                        SEEN.get(words[0]).contains(Long.parseLong(words[k])));
            }
        }
        for (String name : SEEN.keySet()) {
            Check.holds(name + " answered NO, and more than ten others", !Calls.answersLong(name)
                    || SEEN.get(name).contains(Check.NO) && SEEN.get(name).size() > 11);
        }
    }

    private void go() throws ReflectiveOperationException {
        while (calls < MOST_CALLS) {
            switch (random.nextInt(40)) {
                case 0 -> tellPeople();
                case 1 -> tellWorths();
                case 2, 3, 4 -> typeDeeds();
                case 5, 6 -> tellShares();
                case 7, 8 -> tellWeights();
                default -> anyCall();
            }
        }
    }

    private boolean oneIn(int many) {
        return random.nextInt(many) == 0;
    }

    private int between(int first, int last) {
        return first + random.nextInt(last - first + 1);
    }

    /** The call on both; beyond the 512th there is none. */
    private void call(String name, long... numbers) throws ReflectiveOperationException {
        if (calls == MOST_CALLS) {
            return;
        }
        calls++;
        long got = Calls.answer(desk, name, numbers);
        long want = Calls.answer(model, name, numbers);
        Check.due("run " + run + ", call " + calls + ": " + name + Arrays.toString(numbers), got, want);
        SEEN.computeIfAbsent(name, key -> new TreeSet<>()).add(want);
    }

    private void anyCall() throws ReflectiveOperationException {
        String[] words = CALLS[random.nextInt(CALLS.length)].split(" ");
        boolean changesMuch = words[0].equals("people") || words[0].equals("list") || words[0].equals("clear");
        if (changesMuch && !oneIn(4)) {
            return;
        }
        long[] numbers = new long[words.length - 1];
        for (int k = 0; k < numbers.length; k++) {
            numbers[k] = oneIn(60) ? far() : number(words[k + 1]);
        }
        call(words[0], numbers);
    }

    private int far() {
        int[] numbers = {Integer.MIN_VALUE, Integer.MAX_VALUE, -1000, 1000, 1 << 16, -5, 31, 32, 64, 128, -65536};
        return numbers[random.nextInt(numbers.length)];
    }

    /** Such that most are taken, and those just outside come, too. */
    private long number(String what) {
        int n = model.told(0);
        int all = (1 << n) - 1;
        return switch (what) {
            case "n" -> between(1, 5);
            case "group" -> oneIn(8) ? between(0, 16) : between(1, all);
            case "v" -> worth();
            case "letter" -> oneIn(3) ? between(0, 128) : " ;abcdz-09".charAt(random.nextInt(10));
            case "what" -> between(-1, 4);
            case "k" -> between(0, model.stages() + 1);
            case "part" -> oneIn(12) ? between(-1, 2) : random.nextInt(2);
            case "one" -> oneIn(8) ? between(-1, 4) : random.nextInt(n);
            case "place" -> between(-1, all);
            case "g" -> between(-12, 12);
            case "kind" -> between(-1, 3);
            case "list" -> oneIn(15) ? between(-1, 4) : random.nextInt(4);
            case "i" -> oneIn(4) ? between(-1, 30) : random.nextInt(2);
            case "size" -> oneIn(3) ? between(-1, 31) : between(n, 30);
            default -> rowNumber();
        };
    }

    private int worth() {
        int[] edges = {-1000, -999, -998, 998, 999, 1000};
        return oneIn(25) ? edges[random.nextInt(edges.length)] : between(-8, 8);
    }

    private long rowNumber() {
        long[] edges = {-1, 0, 1, 1000, 1001, 1000000, 1000001, -1000000, -1000001, Long.MIN_VALUE, Long.MAX_VALUE,
            (1L << 32) + 1};
        return oneIn(6) ? edges[random.nextInt(edges.length)] : between(0, 6);
    }

    private void tellPeople() throws ReflectiveOperationException {
        call("people", between(2, 4));
        tellWorths();
    }

    /** As they come, with one who adds nothing, by what each adds, by size; mostly with some a little off. */
    private void tellWorths() throws ReflectiveOperationException {
        int n = model.told(0);
        int kind = random.nextInt(5);
        int slips = between(10, 100);
        int idle = 1 << random.nextInt(n);
        int[] numbers = new int[16];
        for (int k = 1; k < numbers.length; k++) {
            numbers[k] = kind == 0 ? worth() : between(-3, 9);
        }
        for (int group = 1; group < 1 << n; group++) {
            int size = Integer.bitCount(group);
            int worth = switch (kind) {
                case 0 -> numbers[group];
                case 1 -> numbers[group & ~idle] + ((group & idle) != 0 ? numbers[idle] : 0);
                case 2 -> numbers[group & 1] + numbers[group & 2] + numbers[group & 4] + numbers[group & 8];
                case 3 -> numbers[size];
                default -> size * size * size;
            };
            call("worth", group, worth + (oneIn(slips) ? between(-2, 2) : 0));
        }
    }

    private void typeDeeds() throws ReflectiveOperationException {
        if (!oneIn(5)) {
            call("clear");
        }
        StringBuilder text = new StringBuilder(deed());
        for (int more = oneIn(20) ? 20 : random.nextInt(4); more > 0; more--) {
            text.append(';').append(deed());
        }
        for (int slips = random.nextInt(8) - 5; slips > 0; slips--) {
            slip(text);
        }
        for (int k = 0; k < text.length(); k++) {
            call("feed", text.charAt(k));
        }
        call("deeds");
        for (int group = 1; group < 16 && oneIn(2); group++) {
            call("worthOf", group);
        }
    }

    private String deed() {
        return switch (random.nextInt(12)) {
            case 0 -> "people " + (oneIn(3) ? "-00".substring(0, between(1, 3)) : "") + between(1, 5);
            case 1, 2, 3 -> "worth " + group() + " " + worth() % 1000;
            case 4, 5 -> "more " + group() + " " + worth() % 1000;
            case 6, 7 -> "dual";
            case 8 -> "zero";
            default -> "swap " + person() + " " + person();
        };
    }

    private char person() {
        return (char) ('a' + random.nextInt(oneIn(3) ? 4 : model.told(0)));
    }

    private String group() {
        StringBuilder letters = new StringBuilder();
        int group = oneIn(6) ? between(1, 15) : between(1, model.told(2));
        for (int p = 0; p < 4; p++) {
            if ((group >> p & 1) == 1) {
                letters.append((char) ('a' + p));
            }
        }
        return letters.toString();
    }

    private void slip(StringBuilder text) {
        String signs = " ;-:abcdeowzAB`{/09\t\u0001\u007f";
        int at = random.nextInt(text.length() + 1);
        if (oneIn(3) || at == text.length()) {
            text.insert(at, signs.charAt(random.nextInt(signs.length())));
        } else if (oneIn(2)) {
            text.setCharAt(at, signs.charAt(random.nextInt(signs.length())));
        } else if (oneIn(2)) {
            text.setLength(at);
        } else {
            text.deleteCharAt(at);
        }
    }

    /** Fair ones, or near them, in one list or two. */
    private void tellShares() throws ReflectiveOperationException {
        int list = random.nextInt(4);
        int i = random.nextInt(3);
        int n = model.told(0);
        call("list", list, i + n + between(0, 4));
        call("lay", list, i);
        for (int slips = random.nextInt(3); slips > 0; slips--) {
            int from = i + between(1, n);
            int to = i + between(1, n);
            long some = between(-2, 2);
            call("set", list, from, model.get(list, from) - some);
            call("set", list, to, model.get(list, to) + (oneIn(6) ? 0 : some));
        }
        call("shares", list, i);
        call("judge", list, i);
        call("orderedBy", list, i, random.nextInt((1 << n) - 2));
        call("grudgeBy", list, i, between(1, (1 << n) - 2), random.nextInt(2));
        int other = random.nextInt(4);
        call("better", list, i, other, random.nextInt(3));
        call("better", other, random.nextInt(3), list, i);
    }

    /** Such that balance, or all but: of groups that are all together, of those that a stage fixes. */
    private void tellWeights() throws ReflectiveOperationException {
        int list = random.nextInt(4);
        int i = random.nextInt(3);
        int all = model.told(2);
        long[] weights = new long[all];
        for (int times = random.nextInt(4); times > 0; times--) {
            int group = between(1, all - 1);
            weights[group] += times;
            weights[all - group] += times;
        }
        List<Integer> fixed = new ArrayList<>();
        for (int group = 1; group < all; group++) {
            if ((model.fixed(1) >> group & 1) == 1 && fixed.size() < 4) {
                fixed.add(group);
            }
        }
        for (int group : fixed) {
            weights[group] += oneIn(2) ? 1 : 0;
        }
        call("list", list, i + all - 1 - (oneIn(20) ? 1 : 0));
        for (int group = 1; group < all; group++) {
            if (weights[group] != 0) {
                call("set", list, i + group - 1, oneIn(40) ? rowNumber() : weights[group]);
            }
        }
        call("tilts", list, i);
        call("proof", list, i, 0);
        call("proof", list, i, 1);
        call("proves", list, i);
    }
}
