/**
 * A desk of least grudges: what groups of people are worth, and the shares by
 * which the greatest grudge of any group is least, then the next, and so on.
 */
public final class GrudgeDesk {
    public static final int NONE = -1, BAD = -2, STATE = -3, FULL = -4;
    public static final long NO = Long.MIN_VALUE;

    private static final int FINE = 0, NOT_ONE = -5, NOTHING = -11, BEYOND = -13, BELOW = -14;
    private static final int FAULTS_FROM = -100;
    private static final int ALL_ZERO = 9;
    private static final int NEEDS_REACH = 30;

    private final Game game = new Game();
    private final Game kept = new Game();
    private final Game trial = new Game();
    private final Script script = new Script();
    private final Stages present = new Stages();
    private final Stages tried = new Stages();
    private final Shares one = new Shares();
    private final Shares other = new Shares();
    private final Weights weights = new Weights();
    private final Rows rows = new Rows();
    private boolean stale = true;
    private boolean imaged = false;

    public GrudgeDesk() {
    }

    // ---- what is told

    public int people(int n) {
        if (!Game.mayBeMany(n)) {
            return BAD;
        }
        int before = game.n;
        game.begin(n);
        stale = true;
        return before;
    }

    public long worth(int group, int v) {
        if (!game.hasGroup(group) || !Game.mayBeWorth(v)) {
            return NO;
        }
        int before = game.v[group];
        game.v[group] = v;
        stale = true;
        return before;
    }

    public long worthOf(int group) {
        return game.hasGroup(group) ? game.v[group] : NO;
    }

    public int feed(int letter) {
        if (letter < 1 || letter > 127) {
            return BAD;
        }
        return script.append(letter) ? script.length : FULL;
    }

    public int clear() {
        int before = script.length;
        script.length = 0;
        return before;
    }

    public int deeds() {
        int fault = script.read();
        script.length = 0;
        if (fault != Script.SOUND) {
            return FAULTS_FROM - fault;
        }
        stale = true;
        return script.carryOut(game);
    }

    public int told(int what) {
        switch (what) {
            case 0: return game.n;
            case 1: return script.length;
            case 2: return game.all();
            case 3: return game.countBelowZero();
            default: return NONE;
        }
    }

    // ---- stages, fair shares

    public int stages() {
        return solved().count;
    }

    public long level(int k, int part) {
        Stages now = solved();
        if (!now.hasStage(k) || !Fractions.hasPart(part)) {
            return NO;
        }
        return Fractions.lowest(now.tops[k], now.bottoms[k], part);
    }

    public int fixed(int k) {
        Stages now = solved();
        return now.hasStage(k) ? now.fixes[k] : NONE;
    }

    public int stageOf(int group) {
        return game.hasPart(group) ? solved().stageFixing(group) : NONE;
    }

    public long fair(int one, int part) {
        if (!game.hasOne(one) || !Fractions.hasPart(part)) {
            return NO;
        }
        return solved().fairShares.shareOf(one, part);
    }

    public long grudge(int group, int part) {
        if (!game.hasPart(group) || !Fractions.hasPart(part)) {
            return NO;
        }
        return solved().fairShares.grudgeOf(group, part);
    }

    public int ordered(int k) {
        return solved().fairShares.inOrder(k);
    }

    public int empty() {
        return solved().tops[1] > 0 ? 1 : 0;
    }

    public long cost(int part) {
        return Fractions.hasPart(part) ? Balanced.costOf(game, part) : NO;
    }

    public long byTurns(int one, int part) {
        if (!game.hasOne(one) || !Fractions.hasPart(part)) {
            return NO;
        }
        return Kinds.turnsOf(game, one, part);
    }

    public long surplus(int one, int other, int part) {
        if (!game.hasOne(one) || !game.hasOne(other) || one == other || !Fractions.hasPart(part)) {
            return NO;
        }
        return solved().fairShares.greatestWith(one, other, part);
    }

    public long would(int group, int v, int one, int part) {
        if (!game.hasGroup(group) || !Game.mayBeWorth(v) || !game.hasOne(one) || !Fractions.hasPart(part)) {
            return NO;
        }
        return fairWere(group, v).shareOf(one, part);
    }

    public long needs(int group, int one, int g) {
        if (!game.hasGroup(group) || !game.hasOne(one)) {
            return NO;
        }
        int from = game.v[group];
        for (int more = 0; more <= NEEDS_REACH && Game.mayBeWorth(from + more); more++) {
            if (fairWere(group, from + more).reaches(one, g)) {
                return from + more;
            }
        }
        return NO;
    }

    // ---- kinds of worth

    public int is(int what) {
        if (!Kinds.hasKind(what)) {
            return NONE;
        }
        return Kinds.leastAgainst(game, what) == NOT_ONE ? 1 : 0;
    }

    public int idle() {
        int who = 0;
        for (int p = 0; p < game.n; p++) {
            if (Kinds.addsNothing(game, p)) {
                who |= 1 << p;
            }
        }
        return who;
    }

    public int alike(int one) {
        if (!game.hasOne(one)) {
            return NONE;
        }
        int who = 0;
        for (int p = 0; p < game.n; p++) {
            if (p != one && Kinds.areAlike(game, one, p)) {
                who |= 1 << p;
            }
        }
        return who;
    }

    public int against(int what) {
        return Kinds.hasKind(what) ? Kinds.leastAgainst(game, what) : NONE;
    }

    // ---- told shares

    public long grudgeBy(int list, int i, int group, int part) {
        if (!game.hasPart(group) || !Fractions.hasPart(part) || rows.readShares(list, i, game, one) != FINE) {
            return NO;
        }
        return one.grudgeOf(group, part);
    }

    public int shares(int list, int i) {
        int answer = rows.readShares(list, i, game, one);
        if (answer != FINE) {
            return answer;
        }
        if (!one.areGood(game)) {
            return 0;
        }
        return one.anyGrudgeAboveZero() ? 1 : 2;
    }

    public int orderedBy(int list, int i, int k) {
        int answer = rows.readShares(list, i, game, one);
        return answer != FINE ? answer : one.inOrder(k);
    }

    public int better(int list, int i, int other, int j) {
        int answer = rows.readShares(list, i, game, one);
        if (answer == FINE) {
            answer = rows.readShares(other, j, game, this.other);
        }
        return answer != FINE ? answer : one.heldAgainst(this.other);
    }

    public int judge(int list, int i) {
        int answer = rows.readShares(list, i, game, one);
        if (answer != FINE) {
            return answer;
        }
        return one.areGood(game) ? solved().firstUnlike(one) : 0;
    }

    public int lay(int list, int i) {
        int answer = rows.complaint(list, 0, 0);
        return answer != FINE ? answer : rows.putShares(list, i, solved().fairShares);
    }

    // ---- weights

    public long proof(int list, int i, int part) {
        if (!Fractions.hasPart(part) || rows.readWeights(list, i, game, weights) != FINE
                || weights.firstTilted() != NOT_ONE) {
            return NO;
        }
        return Fractions.lowest(weights.provenTop(game), weights.total(), part);
    }

    public int proves(int list, int i) {
        int answer = rows.readWeights(list, i, game, weights);
        if (answer != FINE) {
            return answer;
        }
        if (weights.firstTilted() != NOT_ONE) {
            return 0;
        }
        Stages now = solved();
        return weights.provenTop(game) * now.bottoms[1] == now.tops[1] * weights.total() ? 1 : 0;
    }

    public int tilts(int list, int i) {
        int answer = rows.readWeights(list, i, game, weights);
        return answer != FINE ? answer : weights.firstTilted();
    }

    // ---- rows, the image

    public int list(int list, int n) {
        if (!Rows.hasList(list)) {
            return NONE;
        }
        if (n > Rows.LONGEST) {
            return BAD;
        }
        if (n < 0) {
            return BELOW;
        }
        rows.make(list, n);
        return 1;
    }

    public int set(int list, int i, long v) {
        int answer = rows.complaint(list, i, 1);
        if (answer != FINE) {
            return answer;
        }
        rows.numbers[list][i] = v;
        return 1;
    }

    public long get(int list, int i) {
        return rows.complaint(list, i, 1) == FINE ? rows.numbers[list][i] : NO;
    }

    public int image() {
        kept.copyFrom(game);
        imaged = true;
        return game.n;
    }

    public int undo() {
        if (!imaged) {
            return STATE;
        }
        game.copyFrom(kept);
        stale = true;
        return game.n;
    }

    // ---- what several calls need

    /** The stages are kept until a worth may have changed: many calls ask for them in a row. */
    private Stages solved() {
        if (stale) {
            present.solve(game);
            stale = false;
        }
        return present;
    }

    private Shares fairWere(int group, int v) {
        trial.copyFrom(game);
        trial.v[group] = v;
        tried.solve(trial);
        return tried.fairShares;
    }

    /** How many people there are, and what each group of them is worth. */
    private static final class Game {
        static final int MOST_PEOPLE = 4;
        static final int ROW = 1 << MOST_PEOPLE;
        static final int MOST_WORTH = 999;

        int n = 3;
        /** By the group's bits; nobody (0) stays worth 0, which sums over parts rely on. */
        final int[] v = new int[ROW];

        static boolean mayBeMany(int n) {
            return n >= 2 && n <= MOST_PEOPLE;
        }

        static boolean mayBeWorth(int v) {
            return v >= -MOST_WORTH && v <= MOST_WORTH;
        }

        int all() {
            return (1 << n) - 1;
        }

        boolean hasGroup(int group) {
            return group >= 1 && group <= all();
        }

        boolean hasPart(int group) {
            return group >= 1 && group < all();
        }

        boolean hasOne(int p) {
            return p >= 0 && p < n;
        }

        void begin(int people) {
            n = people;
            for (int g = 0; g < ROW; g++) {
                v[g] = 0;
            }
        }

        void copyFrom(Game source) {
            n = source.n;
            System.arraycopy(source.v, 0, v, 0, ROW);
        }

        int countBelowZero() {
            int count = 0;
            for (int g = 1; g <= all(); g++) {
                if (v[g] < 0) {
                    count++;
                }
            }
            return count;
        }

        int sumOfEachAlone(int group) {
            int sum = 0;
            for (int p = 0; p < n; p++) {
                if ((group >> p & 1) == 1) {
                    sum += v[1 << p];
                }
            }
            return sum;
        }
    }

    /** Fractions above / below, with below greater than 0. */
    private static final class Fractions {
        /** Euclid's steps for two longs never come to so many. */
        private static final int MOST_STEPS = 100;

        static boolean hasPart(int part) {
            return part == 0 || part == 1;
        }

        static long commonDivisor(long a, long b) {
            long x = a < 0 ? -a : a;
            long y = b < 0 ? -b : b;
            for (int step = 0; step < MOST_STEPS && y != 0; step++) {
                long rest = x % y;
                x = y;
                y = rest;
            }
            return x;
        }

        static long lowest(long above, long below, int part) {
            long asked = part == 0 ? above : below;
            long divisor = commonDivisor(above, below);
            return divisor > 1 ? asked / divisor : asked;
        }
    }

    /** The tape, and the deeds that were read from it. */
    private static final class Script {
        static final int SOUND = -1;
        private static final int LONGEST = 100;
        /** A deed's word has four letters or more. */
        private static final int MOST_DEEDS = LONGEST / 4;
        private static final int MOST_FIGURES = 3;
        private static final int NO_DEED = -1, PEOPLE = 0, WORTH = 1, MORE = 2, DUAL = 3, ZERO = 4, SWAP = 5;
        private static final int NO_SUCH = -1;

        int length = 0;
        private final int[] tape = new int[LONGEST];
        private final int[] kinds = new int[MOST_DEEDS];
        private final int[] firsts = new int[MOST_DEEDS];
        private final int[] seconds = new int[MOST_DEEDS];
        private final int[] next = new int[Game.ROW];
        private int count;
        private int place;
        private int fault;
        private int value;

        boolean append(int letter) {
            if (length >= LONGEST) {
                return false;
            }
            tape[length] = letter;
            length++;
            return true;
        }

        /** The fault of the text on the tape, or SOUND: then its deeds are ready to be carried out. */
        int read() {
            count = 0;
            place = 0;
            for (int turn = 0; turn <= LONGEST; turn++) {
                if (!readDeed()) {
                    return fault;
                }
                if (place == length) {
                    return SOUND;
                }
                if (here() != ';') {
                    return place;
                }
                place++;
            }
            return place;
        }

        private boolean readDeed() {
            int from = place;
            passLetters();
            int kind = kindOf(from);
            if (kind == NO_DEED || count >= MOST_DEEDS) {
                return failAt(from);
            }
            kinds[count] = kind;
            if (!readArguments(kind)) {
                return false;
            }
            count++;
            return true;
        }

        private boolean readArguments(int kind) {
            switch (kind) {
                case PEOPLE:
                    return readBlank() && readNumber() && keepIn(firsts);
                case WORTH:
                case MORE:
                    return readBlank() && readGroup() && keepIn(firsts)
                            && readBlank() && readNumber() && keepIn(seconds);
                case SWAP:
                    return readBlank() && readPerson() && keepIn(firsts)
                            && readBlank() && readPerson() && keepIn(seconds);
                default:
                    return true;
            }
        }

        private boolean keepIn(int[] arguments) {
            arguments[count] = value;
            return true;
        }

        private boolean failAt(int where) {
            fault = where;
            return false;
        }

        /** The byte at the place, or NO_SUCH behind the last one. */
        private int here() {
            return place < length ? tape[place] : NO_SUCH;
        }

        private boolean readBlank() {
            if (here() != ' ') {
                return failAt(place);
            }
            place++;
            return true;
        }

        private boolean isFigureHere() {
            return here() >= '0' && here() <= '9';
        }

        private boolean readNumber() {
            boolean negative = here() == '-';
            if (negative) {
                place++;
            }
            if (!isFigureHere()) {
                return failAt(place);
            }
            int number = 0;
            for (int figures = 0; figures < MOST_FIGURES && isFigureHere(); figures++) {
                number = number * 10 + here() - '0';
                place++;
            }
            value = negative ? -number : number;
            return true;
        }

        private boolean readGroup() {
            int from = place;
            passLetters();
            int group = 0;
            for (int at = from; at < place; at++) {
                int bit = bitOf(tape[at]);
                if (bit <= group) {
                    return failAt(from);
                }
                group |= bit;
            }
            value = group;
            return group != 0 || failAt(from);
        }

        private boolean readPerson() {
            int from = place;
            passLetters();
            if (place != from + 1 || bitOf(tape[from]) == 0) {
                return failAt(from);
            }
            value = tape[from] - 'a';
            return true;
        }

        /** 0 for a letter that names nobody: so it is never above the bits ahead of it. */
        private static int bitOf(int letter) {
            return letter >= 'a' && letter <= 'd' ? 1 << letter - 'a' : 0;
        }

        private void passLetters() {
            for (int turn = 0; turn < LONGEST && here() >= 'a' && here() <= 'z'; turn++) {
                place++;
            }
        }

        private int kindOf(int from) {
            if (spells(from, "people")) {
                return PEOPLE;
            }
            if (spells(from, "worth")) {
                return WORTH;
            }
            if (spells(from, "more")) {
                return MORE;
            }
            if (spells(from, "dual")) {
                return DUAL;
            }
            if (spells(from, "zero")) {
                return ZERO;
            }
            return spells(from, "swap") ? SWAP : NO_DEED;
        }

        private boolean spells(int from, String word) {
            if (place - from != word.length()) {
                return false;
            }
            for (int k = 0; k < word.length(); k++) {
                if (tape[from + k] != word.charAt(k)) {
                    return false;
                }
            }
            return true;
        }

        int carryOut(Game game) {
            int done = 0;
            for (int k = 0; k < count; k++) {
                if (isDone(kinds[k], firsts[k], seconds[k], game)) {
                    done++;
                }
            }
            return done;
        }

        private boolean isDone(int kind, int first, int second, Game game) {
            switch (kind) {
                case PEOPLE:
                    return begins(first, game);
                case WORTH:
                    return game.hasGroup(first) && becomes(first, second, game);
                case MORE:
                    return game.hasGroup(first) && becomes(first, game.v[first] + second, game);
                case DUAL:
                    return turnsDual(game);
                case ZERO:
                    return turnsZero(game);
                default:
                    return game.hasOne(first) && game.hasOne(second) && swaps(first, second, game);
            }
        }

        private static boolean begins(int people, Game game) {
            if (!Game.mayBeMany(people)) {
                return false;
            }
            game.begin(people);
            return true;
        }

        private static boolean becomes(int group, int v, Game game) {
            if (!Game.mayBeWorth(v)) {
                return false;
            }
            game.v[group] = v;
            return true;
        }

        private boolean turnsDual(Game game) {
            int all = game.all();
            for (int g = 1; g < all; g++) {
                next[g] = game.v[all] - game.v[all ^ g];
            }
            next[all] = game.v[all];
            return takesNext(game);
        }

        private boolean turnsZero(Game game) {
            for (int g = 1; g <= game.all(); g++) {
                next[g] = game.v[g] - game.sumOfEachAlone(g);
            }
            return takesNext(game);
        }

        private boolean swaps(int first, int second, Game game) {
            for (int g = 1; g <= game.all(); g++) {
                boolean unlike = (g >> first & 1) != (g >> second & 1);
                next[g] = game.v[unlike ? g ^ (1 << first | 1 << second) : g];
            }
            return takesNext(game);
        }

        /** All worths change or none: a deed that leads one too far is not done at all. */
        private boolean takesNext(Game game) {
            for (int g = 1; g <= game.all(); g++) {
                if (!Game.mayBeWorth(next[g])) {
                    return false;
                }
            }
            System.arraycopy(next, 1, game.v, 1, game.all());
            return true;
        }
    }

    /** Shares with one number below all lines, and the grudges of all parts by them. */
    private static final class Shares {
        long below = 1;
        final long[] above = new long[Game.MOST_PEOPLE];
        /** By the group's bits, over the number below, too. */
        final long[] grudges = new long[Game.ROW];
        private int n = 2;
        private int all = 3;

        /** To be called when the shares stand: all that asks for grudges reads what it finds. */
        void measure(Game game) {
            n = game.n;
            all = game.all();
            for (int g = 1; g < all; g++) {
                grudges[g] = game.v[g] * below - sumOf(g);
            }
        }

        long sumOf(int group) {
            long sum = 0;
            for (int p = 0; p < above.length; p++) {
                if ((group >> p & 1) == 1) {
                    sum += above[p];
                }
            }
            return sum;
        }

        boolean areGood(Game game) {
            return sumOf(game.all()) == game.v[game.all()] * below;
        }

        boolean anyGrudgeAboveZero() {
            for (int g = 1; g < all; g++) {
                if (grudges[g] > 0) {
                    return true;
                }
            }
            return false;
        }

        long shareOf(int p, int part) {
            return Fractions.lowest(above[p], below, part);
        }

        boolean reaches(int p, int share) {
            return above[p] >= share * below;
        }

        long grudgeOf(int group, int part) {
            return Fractions.lowest(grudges[group], below, part);
        }

        long greatestWith(int one, int without, int part) {
            long greatest = grudges[1 << one];
            for (int g = 1; g < all; g++) {
                if ((g >> one & 1) == 1 && (g >> without & 1) == 0) {
                    greatest = Math.max(greatest, grudges[g]);
                }
            }
            return Fractions.lowest(greatest, below, part);
        }

        /** The part with just k parts ahead of it. */
        int inOrder(int k) {
            for (int g = 1; g < all; g++) {
                if (countAhead(g) == k) {
                    return g;
                }
            }
            return NONE;
        }

        private int countAhead(int group) {
            int count = 0;
            for (int g = 1; g < all; g++) {
                if (grudges[g] > grudges[group] || grudges[g] == grudges[group] && g < group) {
                    count++;
                }
            }
            return count;
        }

        /** 1 better, 2 worse, 0 alike. Both are measured with the same game. */
        int heldAgainst(Shares rival) {
            for (int k = 0; k < all - 1; k++) {
                int mine = inOrder(k);
                int theirs = rival.inOrder(k);
                if (mine < 0 || theirs < 0) {
                    return 0;
                }
                long left = grudges[mine] * rival.below;
                long right = rival.grudges[theirs] * below;
                if (left != right) {
                    return left < right ? 1 : 2;
                }
            }
            return 0;
        }

        /** The least number below the lines: it is what all shares in lowest terms have in common. */
        void simplify() {
            long divisor = below;
            for (int p = 0; p < above.length; p++) {
                divisor = Fractions.commonDivisor(divisor, above[p]);
            }
            if (divisor > 1) {
                below /= divisor;
                for (int p = 0; p < above.length; p++) {
                    above[p] /= divisor;
                }
            }
        }
    }

    /**
     * The least balanced collections: every way in which weights balance is a
     * sum of these. So what is proven by one of them is the first level, and
     * the dearest one, with c as 1, is the cost of a core.
     */
    private static final class Balanced {
        static final int WIDTH = 5;

        /** A group that stands twice has weight 2; 0 fills up. */
        private static final int[] OF_TWO = {1, 2, 0, 0, 0};

        private static final int[] OF_THREE = {
            1, 6, 0, 0, 0, 2, 5, 0, 0, 0, 3, 4, 0, 0, 0, 1, 2, 4, 0, 0, 3, 5, 6, 0, 0};

        private static final int[] OF_FOUR = {
            1, 14, 0, 0, 0, 2, 13, 0, 0, 0, 4, 11, 0, 0, 0, 7, 8, 0, 0, 0,
            3, 12, 0, 0, 0, 5, 10, 0, 0, 0, 6, 9, 0, 0, 0,
            1, 2, 12, 0, 0, 1, 4, 10, 0, 0, 1, 6, 8, 0, 0,
            2, 4, 9, 0, 0, 2, 5, 8, 0, 0, 3, 4, 8, 0, 0,
            3, 13, 14, 0, 0, 5, 11, 14, 0, 0, 6, 11, 13, 0, 0,
            7, 9, 14, 0, 0, 7, 10, 13, 0, 0, 7, 11, 12, 0, 0,
            1, 2, 4, 8, 0, 7, 11, 13, 14, 0,
            1, 6, 10, 13, 0, 1, 6, 11, 12, 0, 1, 7, 10, 12, 0,
            2, 5, 9, 14, 0, 2, 5, 11, 12, 0, 2, 7, 9, 12, 0,
            3, 4, 9, 14, 0, 3, 4, 10, 13, 0, 4, 7, 9, 10, 0,
            3, 5, 8, 14, 0, 3, 6, 8, 13, 0, 5, 6, 8, 11, 0,
            1, 1, 6, 10, 12, 2, 2, 5, 9, 12, 3, 4, 4, 9, 10, 3, 5, 6, 8, 8,
            3, 5, 9, 14, 14, 3, 6, 10, 13, 13, 5, 6, 11, 11, 12, 7, 7, 9, 10, 12};

        private static int[] tableOf(int n) {
            if (n == 2) {
                return OF_TWO;
            }
            return n == 3 ? OF_THREE : OF_FOUR;
        }

        static void offerAll(Game game, Stages stages) {
            int[] table = tableOf(game.n);
            for (int from = 0; from + WIDTH <= table.length; from += WIDTH) {
                int c = 0;
                int total = 0;
                int set = 0;
                for (int k = from; k < from + WIDTH; k++) {
                    c += table[k] & 1;
                    total += table[k] == 0 ? 0 : 1;
                    set |= table[k] == 0 ? 0 : 1 << table[k];
                }
                stages.offer(set, sumOfWorths(game, table, from) - c * game.v[game.all()], total);
            }
        }

        private static int sumOfWorths(Game game, int[] table, int from) {
            int sum = 0;
            for (int k = from; k < from + WIDTH; k++) {
                sum += game.v[table[k]];
            }
            return sum;
        }

        static long costOf(Game game, int part) {
            int[] table = tableOf(game.n);
            long top = 0;
            long bottom = 0;
            for (int from = 0; from + WIDTH <= table.length; from += WIDTH) {
                int c = 0;
                for (int k = from; k < from + WIDTH; k++) {
                    c += table[k] & 1;
                }
                int sum = sumOfWorths(game, table, from);
                if (bottom == 0 || sum * bottom > top * c) {
                    top = sum;
                    bottom = c;
                }
            }
            return Fractions.lowest(top, bottom, part);
        }
    }

    /**
     * The stages. The shares that are still open are a point and some ways
     * that can be gone from it; each part that a stage fixes takes away a way,
     * unless no way changes its grudge. A level is the greatest of what weights
     * prove that balance along all ways, and parts with a weight there are fixed:
     * by the duality of linear programs, and its strict form, no other ones.
     */
    private static final class Stages {
        private static final int MOST_WAYS = Game.MOST_PEOPLE - 1;
        private static final int MOST_PARTS = Game.ROW - 2;

        int count;
        /** By the stage, from 1 on. */
        final long[] tops = new long[MOST_PARTS + 1];
        final long[] bottoms = new long[MOST_PARTS + 1];
        final int[] fixes = new int[MOST_PARTS + 1];
        /** The point, and at the end the fair shares. */
        final Shares fairShares = new Shares();

        private int wayCount;
        private final long[][] ways = new long[MOST_WAYS][Game.MOST_PEOPLE];
        /** The parts not fixed yet as bits, and in a row. */
        private int open;
        private int openCount;
        private final int[] parts = new int[MOST_PARTS];
        /** For each part in the row: how it goes along the first way and the second, its grudge at the point. */
        private final long[] along = new long[MOST_PARTS];
        private final long[] across = new long[MOST_PARTS];
        private final long[] heights = new long[MOST_PARTS];
        private int bestSet;
        private long bestTop;
        private long bestBottom;

        void solve(Game game) {
            begin(game);
            Balanced.offerAll(game, this);
            closeStage();
            tieFixed(game);
            for (int turn = 0; turn < MOST_PARTS && open != 0; turn++) {
                gatherOpen(game);
                offerSingles();
                offerPairs();
                offerTriples();
                closeStage();
                tieFixed(game);
            }
            fairShares.measure(game);
        }

        boolean hasStage(int k) {
            return k >= 1 && k <= count;
        }

        int stageFixing(int group) {
            for (int k = 1; k <= count; k++) {
                if ((fixes[k] >> group & 1) == 1) {
                    return k;
                }
            }
            return NONE;
        }

        int firstUnlike(Shares shares) {
            for (int k = 1; k <= count; k++) {
                for (int g = 1; g < Game.ROW; g++) {
                    if ((fixes[k] >> g & 1) == 1 && shares.grudges[g] * bottoms[k] != tops[k] * shares.below) {
                        return k;
                    }
                }
            }
            return NOT_ONE;
        }

        /** All to the first of people; each way hands some of it to another one. */
        private void begin(Game game) {
            count = 0;
            open = (1 << game.all()) - 2;
            wayCount = game.n - 1;
            fairShares.below = 1;
            for (int p = 0; p < Game.MOST_PEOPLE; p++) {
                fairShares.above[p] = p == 0 ? game.v[game.all()] : 0;
                for (int w = 0; w < MOST_WAYS; w++) {
                    ways[w][p] = p == 0 ? -1 : p == w + 1 ? 1 : 0;
                }
            }
            bestBottom = 0;
        }

        /** What weights on a set of parts prove, over the number below the point's lines. */
        void offer(int set, long top, long bottom) {
            long left = top * bestBottom;
            long right = bestTop * bottom;
            if (bestBottom == 0 || left > right) {
                bestSet = set;
                bestTop = top;
                bestBottom = bottom;
            } else if (left == right) {
                bestSet |= set;
            }
        }

        /** Behind the first stage two ways are left at most, so two numbers say how a part goes. */
        private void gatherOpen(Game game) {
            openCount = 0;
            for (int g = 1; g < game.all() && openCount < MOST_PARTS; g++) {
                if ((open >> g & 1) == 1) {
                    parts[openCount] = g;
                    along[openCount] = wayCount > 0 ? goes(0, g) : 0;
                    across[openCount] = wayCount > 1 ? goes(1, g) : 0;
                    heights[openCount] = game.v[g] * fairShares.below - fairShares.sumOf(g);
                    openCount++;
                }
            }
            bestBottom = 0;
        }

        /** By how much a group has more, one step along a way. */
        private long goes(int way, int group) {
            long sum = 0;
            for (int p = 0; p < Game.MOST_PEOPLE; p++) {
                if ((group >> p & 1) == 1) {
                    sum += ways[way][p];
                }
            }
            return sum;
        }

        private void offerSingles() {
            for (int i = 0; i < openCount; i++) {
                if (along[i] == 0 && across[i] == 0) {
                    offer(1 << parts[i], heights[i], 1);
                }
            }
        }

        /** Two that go straight against one another. */
        private void offerPairs() {
            for (int i = 0; i < openCount && wayCount > 0; i++) {
                for (int j = i + 1; j < openCount; j++) {
                    if (leftTurn(i, j) == 0 && along[i] * along[j] + across[i] * across[j] < 0) {
                        long first = Math.abs(along[j]) + Math.abs(across[j]);
                        long second = Math.abs(along[i]) + Math.abs(across[i]);
                        offer(1 << parts[i] | 1 << parts[j],
                                first * heights[i] + second * heights[j], first + second);
                    }
                }
            }
        }

        /** Three that hold one another, each between the other two's opposites. */
        private void offerTriples() {
            for (int i = 0; i < openCount && wayCount > 1; i++) {
                for (int j = i + 1; j < openCount; j++) {
                    long third = leftTurn(i, j);
                    for (int k = j + 1; k < openCount && third != 0; k++) {
                        long first = leftTurn(j, k);
                        long second = leftTurn(k, i);
                        if (first > 0 && second > 0 && third > 0 || first < 0 && second < 0 && third < 0) {
                            offerThree(i, j, k, Math.abs(first), Math.abs(second), Math.abs(third));
                        }
                    }
                }
            }
        }

        private void offerThree(int i, int j, int k, long first, long second, long third) {
            offer(1 << parts[i] | 1 << parts[j] | 1 << parts[k],
                    first * heights[i] + second * heights[j] + third * heights[k], first + second + third);
        }

        /** Above 0, if the way of j lies to the left of that of i; 0, if they are on one line. */
        private long leftTurn(int i, int j) {
            return along[i] * across[j] - across[i] * along[j];
        }

        private void closeStage() {
            if (bestBottom == 0 || count >= MOST_PARTS) {
                bestSet = 0;
                return;
            }
            count++;
            long bottom = bestBottom * fairShares.below;
            tops[count] = Fractions.lowest(bestTop, bottom, 0);
            bottoms[count] = Fractions.lowest(bestTop, bottom, 1);
            fixes[count] = bestSet;
            open &= ~bestSet;
        }

        private void tieFixed(Game game) {
            for (int g = 1; g < game.all(); g++) {
                int way = (bestSet >> g & 1) == 1 ? wayChanging(g) : NONE;
                if (way != NONE) {
                    movePoint(way, g, game.v[g]);
                    dropWay(way, g);
                }
            }
        }

        /** To where the group's grudge is the level of the stage just closed. */
        private void movePoint(int way, int group, int worth) {
            long below = fairShares.below;
            long gap = (worth * below - fairShares.sumOf(group)) * bottoms[count] - tops[count] * below;
            long scale = bottoms[count] * goes(way, group);
            long sign = scale < 0 ? -1 : 1;
            for (int p = 0; p < Game.MOST_PEOPLE; p++) {
                fairShares.above[p] = sign * (fairShares.above[p] * scale + ways[way][p] * gap);
            }
            fairShares.below = sign * below * scale;
            fairShares.simplify();
        }

        private int wayChanging(int group) {
            for (int w = 0; w < wayCount; w++) {
                if (goes(w, group) != 0) {
                    return w;
                }
            }
            return NONE;
        }

        /** The other ways are bent by the dropped one, so that the group has the same along them. */
        private void dropWay(int way, int group) {
            long step = goes(way, group);
            for (int w = 0; w < wayCount; w++) {
                if (w != way) {
                    bend(w, way, goes(w, group), step);
                }
            }
            wayCount--;
            System.arraycopy(ways[wayCount], 0, ways[way], 0, Game.MOST_PEOPLE);
        }

        /** Not brought to lowest terms: two ways are dropped at most ahead of the last, so all stays small. */
        private void bend(int w, int by, long change, long step) {
            for (int p = 0; p < Game.MOST_PEOPLE; p++) {
                ways[w][p] = ways[w][p] * step - ways[by][p] * change;
            }
        }
    }

    /** Turns, and the kinds of worth. */
    private static final class Kinds {
        private static final int CONVEX = 0, ADDS = 1, GROWS = 2;
        private static final int[] FACTORIALS = {1, 1, 2, 6, 24};

        static boolean hasKind(int what) {
            return what >= CONVEX && what <= GROWS;
        }

        static long turnsOf(Game game, int p, int part) {
            long sum = 0;
            for (int g = 0; g <= game.all(); g++) {
                if ((g >> p & 1) == 0) {
                    int come = Integer.bitCount(g);
                    int orders = FACTORIALS[come] * FACTORIALS[game.n - 1 - come];
                    sum += (long) orders * (game.v[g | 1 << p] - game.v[g]);
                }
            }
            return Fractions.lowest(sum, FACTORIALS[game.n], part);
        }

        static boolean addsNothing(Game game, int p) {
            int alone = 1 << p;
            for (int g = 1; g <= game.all(); g++) {
                if ((g & alone) == 0 && game.v[g | alone] - game.v[g] != game.v[alone]) {
                    return false;
                }
            }
            return true;
        }

        static boolean areAlike(Game game, int p, int q) {
            int both = 1 << p | 1 << q;
            for (int g = 0; g <= game.all(); g++) {
                if ((g & both) == 0 && game.v[g | 1 << p] != game.v[g | 1 << q]) {
                    return false;
                }
            }
            return true;
        }

        /** The lesser of two comes first, so the first found is the least; a group within another is the lesser. */
        static int leastAgainst(Game game, int what) {
            for (int s = 1; s <= game.all(); s++) {
                for (int t = s + 1; t <= game.all(); t++) {
                    if (showsAgainst(game.v, what, s, t)) {
                        return s;
                    }
                }
            }
            return NOT_ONE;
        }

        private static boolean showsAgainst(int[] v, int what, int s, int t) {
            switch (what) {
                case CONVEX:
                    return v[s | t] + v[s & t] < v[s] + v[t];
                case ADDS:
                    return (s & t) == 0 && v[s | t] < v[s] + v[t];
                default:
                    return (s & t) == s && v[t] < v[s];
            }
        }
    }

    /** Told weights of parts. */
    private static final class Weights {
        final long[] each = new long[Game.ROW];
        int n = 2;
        int all = 3;

        /** NOT_ONE: they balance. */
        int firstTilted() {
            if (total() == 0) {
                return ALL_ZERO;
            }
            for (int p = 1; p < n; p++) {
                if (sumWith(p) != sumWith(0)) {
                    return p;
                }
            }
            return NOT_ONE;
        }

        long total() {
            long sum = 0;
            for (int g = 1; g < all; g++) {
                sum += each[g];
            }
            return sum;
        }

        private long sumWith(int p) {
            long sum = 0;
            for (int g = 1; g < all; g++) {
                if ((g >> p & 1) == 1) {
                    sum += each[g];
                }
            }
            return sum;
        }

        /** What they prove, over their total. */
        long provenTop(Game game) {
            long top = -sumWith(0) * game.v[all];
            for (int g = 1; g < all; g++) {
                top += each[g] * game.v[g];
            }
            return top;
        }
    }

    /** The lists. */
    private static final class Rows {
        static final int LONGEST = 30;
        private static final int LISTS = 4;
        private static final int NOT_MADE = -1;
        private static final int MOST_BELOW = 1000, MOST_ABOVE = 1000000, MOST_WEIGHT = 1000;

        final long[][] numbers = new long[LISTS][LONGEST];
        private final int[] sizes = {NOT_MADE, NOT_MADE, NOT_MADE, NOT_MADE};

        static boolean hasList(int list) {
            return list >= 0 && list < LISTS;
        }

        void make(int list, int size) {
            sizes[list] = size;
            for (int i = 0; i < LONGEST; i++) {
                numbers[list][i] = 0;
            }
        }

        /** FINE, if a list has so many places from i on. */
        int complaint(int list, int i, int many) {
            if (!hasList(list)) {
                return NONE;
            }
            if (sizes[list] == NOT_MADE) {
                return NOTHING;
            }
            return i < 0 || i > sizes[list] - many ? BEYOND : FINE;
        }

        int readShares(int list, int i, Game game, Shares shares) {
            int answer = complaint(list, i, game.n + 1);
            if (answer != FINE) {
                return answer;
            }
            long[] row = numbers[list];
            if (row[i] < 1 || row[i] > MOST_BELOW) {
                return BAD;
            }
            shares.below = row[i];
            for (int p = 0; p < Game.MOST_PEOPLE; p++) {
                long share = p < game.n ? row[i + 1 + p] : 0;
                if (share < -MOST_ABOVE || share > MOST_ABOVE) {
                    return BAD;
                }
                shares.above[p] = share;
            }
            shares.measure(game);
            return FINE;
        }

        /** How many numbers were put, or BEYOND, if some had no place. */
        int putShares(int list, int i, Shares shares) {
            if (i < 0) {
                return BEYOND;
            }
            for (int k = 0; k <= shares.n; k++) {
                if (i >= sizes[list] - k) {
                    return BEYOND;
                }
                numbers[list][i + k] = k == 0 ? shares.below : shares.above[k - 1];
            }
            return shares.n + 1;
        }

        int readWeights(int list, int i, Game game, Weights weights) {
            int answer = complaint(list, i, game.all() - 1);
            if (answer != FINE) {
                return answer;
            }
            weights.n = game.n;
            weights.all = game.all();
            for (int g = 1; g < game.all(); g++) {
                long weight = numbers[list][i + g - 1];
                if (weight < 0 || weight > MOST_WEIGHT) {
                    return BAD;
                }
                weights.each[g] = weight;
            }
            return FINE;
        }
    }
}
