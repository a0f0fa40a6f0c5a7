/** Promises 1 to 6 and 8: a new object, people, worth, worthOf, feed, clear, told. */
public final class ToldTest {
    public static void main(String[] args) {
        aNewObject();
        people();
        worths();
        tape();
        told();
        Check.end("ToldTest");
    }

    private static void aNewObject() {
        GrudgeDesk x = new GrudgeDesk();
        Check.due("new: n", x.told(0), 3);
        Check.due("new: bytes", x.told(1), 0);
        Check.worths("new", x, 0, 0, 0, 0, 0, 0, 0);
        Check.due("new: no list", x.get(0, 0), Check.NO);
        Check.due("new: no image", x.undo(), Check.STATE);
        GrudgeDesk y = new GrudgeDesk();
        y.worth(1, 5);
        Check.due("objects share nothing", x.worthOf(1), 0);
    }

    private static void people() {
        GrudgeDesk x = Check.desk(3, 1, 2, 3, 4, 5, 6, 7);
        int[] none = {1, 5, 0, -1, Integer.MAX_VALUE, Integer.MIN_VALUE};
        for (int n : none) {
            Check.due("people(" + n + ")", x.people(n), Check.BAD);
        }
        Check.worths("BAD changes nothing", x, 1, 2, 3, 4, 5, 6, 7);
        Check.due("people(3) of 3", x.people(3), 3);
        Check.worths("people(3)", x, 0, 0, 0, 0, 0, 0, 0);
        Check.tell(x, 1, 2, 3, 4, 5, 6, 7);
        Check.due("people(4)", x.people(4), 3);
        Check.worths("people(4)", x, 0, 0, 0, 0, 0, 0, 0, 0, 0, 0, 0, 0, 0, 0, 0);
        x.worth(15, 9);
        Check.due("people(2)", x.people(2), 4);
        Check.due("group 4 of 2", x.worthOf(4), Check.NO);
        Check.due("people(4) again", x.people(4), 2);
        Check.due("worth of all is 0 again", x.worthOf(15), 0);
        x.feed('a');
        Check.row(x, 0, 5);
        x.people(3);
        Check.due("people leaves the tape", x.told(1), 1);
        Check.due("people leaves lists", x.get(0, 0), 5);
    }

    private static void worths() {
        GrudgeDesk x = new GrudgeDesk();
        Check.due("worth(7, 999)", x.worth(7, 999), 0);
        Check.due("worth(7, -999)", x.worth(7, -999), 999);
        Check.due("worthOf(7)", x.worthOf(7), -999);
        int[] noGroups = {0, 8, 15, -1, 16, Integer.MIN_VALUE, Integer.MAX_VALUE};
        for (int g : noGroups) {
            Check.due("worth(" + g + ", 1)", x.worth(g, 1), Check.NO);
            Check.due("worthOf(" + g + ")", x.worthOf(g), Check.NO);
        }
        int[] noWorths = {1000, -1000, Integer.MIN_VALUE, Integer.MAX_VALUE};
        for (int v : noWorths) {
            Check.due("worth(1, " + v + ")", x.worth(1, v), Check.NO);
        }
        Check.due("NO changes nothing", x.worthOf(1), 0);
        x.people(4);
        Check.due("group 15 of 4", x.worth(15, 7), 0);
        Check.due("worthOf(15)", x.worthOf(15), 7);
        x.people(2);
        Check.due("group 3 of 2", x.worth(3, 7), 0);
        Check.due("group 4 of 2", x.worth(4, 7), Check.NO);
    }

    private static void tape() {
        GrudgeDesk x = new GrudgeDesk();
        int[] bad = {0, 128, -1, Integer.MIN_VALUE, Integer.MAX_VALUE};
        for (int letter : bad) {
            Check.due("feed(" + letter + ")", x.feed(letter), Check.BAD);
        }
        Check.due("feed(1)", x.feed(1), 1);
        Check.due("feed(127)", x.feed(127), 2);
        for (int k = 3; k <= 100; k++) {
            Check.due("feed to " + k, x.feed('a'), k);
        }
        Check.due("feed to 101", x.feed('a'), Check.FULL);
        Check.due("BAD ahead of FULL", x.feed(0), Check.BAD);
        Check.due("bytes", x.told(1), 100);
        Check.due("clear of 100", x.clear(), 100);
        Check.due("clear of 0", x.clear(), 0);
        Check.due("feed again", x.feed('a'), 1);
    }

    private static void told() {
        for (int n = 2; n <= 4; n++) {
            GrudgeDesk x = Check.desk(n);
            Check.due("told(0)", x.told(0), n);
            Check.due("told(2)", x.told(2), (1 << n) - 1);
            Check.due("told(3) of zeros", x.told(3), 0);
            for (int g = 1; g < 1 << n; g++) {
                x.worth(g, -1);
                Check.due("told(3)", x.told(3), g);
            }
            x.worth(1, 1);
            Check.due("told(3) less one", x.told(3), (1 << n) - 2);
        }
        GrudgeDesk x = new GrudgeDesk();
        x.feed('q');
        Check.due("told(1)", x.told(1), 1);
        int[] none = {-1, 4, Integer.MIN_VALUE, Integer.MAX_VALUE};
        for (int what : none) {
            Check.due("told(" + what + ")", x.told(what), Check.NONE);
        }
    }
}
