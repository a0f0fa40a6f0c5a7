/** What the tests share: answers held against those that are due, and ways to tell a desk much at once. */
final class Check {
    static final long NO = GrudgeDesk.NO;
    static final int NONE = -1, BAD = -2, STATE = -3, FULL = -4, NOT_ONE = -5;
    static final int NOTHING = -11, BEYOND = -13, BELOW = -14;

    private static int wrong = 0;
    private static int held = 0;
    private static String context = "";

    private Check() {
    }

    /** What is held from here on is told with these words ahead of it, if it is not as due. */
    static void under(String words) {
        context = words + ": ";
    }

    static void due(String what, long got, long want) {
        held++;
        if (got != want) {
            wrong++;
            if (wrong <= 40) {
                System.out.println(context + what + " answered " + got + ", due is " + want);
            }
        }
    }

    static void fraction(String what, long top, long bottom, long wantTop, long wantBottom) {
        due(what + " above the line", top, wantTop);
        due(what + " below the line", bottom, wantBottom);
    }

    static void holds(String what, boolean so) {
        due(what, so ? 1 : 0, 1);
    }

    static void end(String test) {
        System.out.println(test + ": " + held + " answers, " + wrong + " not as due");
        if (wrong != 0 || held == 0) {
            System.exit(1);
        }
    }

    /** A desk with so many people, and worths of the groups 1, 2, 3 .. in order. */
    static GrudgeDesk desk(int n, int... worths) {
        GrudgeDesk x = new GrudgeDesk();
        x.people(n);
        tell(x, worths);
        return x;
    }

    static void tell(GrudgeDesk x, int... worths) {
        for (int g = 1; g <= worths.length; g++) {
            x.worth(g, worths[g - 1]);
        }
    }

    static void row(GrudgeDesk x, int list, long... numbers) {
        x.list(list, numbers.length);
        for (int i = 0; i < numbers.length; i++) {
            x.set(list, i, numbers[i]);
        }
    }

    static void type(GrudgeDesk x, String text) {
        for (int k = 0; k < text.length(); k++) {
            x.feed(text.charAt(k));
        }
    }

    static int deeds(GrudgeDesk x, String text) {
        type(x, text);
        return x.deeds();
    }

    static void worths(String what, GrudgeDesk x, int... want) {
        for (int g = 1; g <= want.length; g++) {
            due(what + ": worthOf(" + g + ")", x.worthOf(g), want[g - 1]);
        }
    }
}
