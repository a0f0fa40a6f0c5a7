import java.util.function.Supplier;

/** Edges of promises 35 to 39: rows, the image. */
final class RowEdges {
    private static final int[] NUMBERS = {3, -5, 30, 7, 40, 50, 61};

    private RowEdges() {
    }

    static void all() {
        sizesTaken();
        madeAnew();
        listRefused();
        setTaken();
        setRefused();
        getRefused();
        anyLong();
        noImage();
        images();
        imageOfEach();
        imageIsNoMore();
    }

    private static void sizesTaken() {
        Edges.sentence(35, "A LIST becomes a row of n longs, all 0: 1.");
        for (int list = 0; list <= 3; list++) {
            for (int n : new int[] {0, 1, 29, 30}) {
                GrudgeDesk x = new GrudgeDesk();
                Check.due("list(" + list + ", " + n + ")", x.list(list, n), 1);
                for (int i = 0; i < n; i++) {
                    Check.due("get(" + list + ", " + i + ")", x.get(list, i), 0);
                }
                Check.due("behind its end", x.get(list, n), Check.NO);
                Check.due("set behind its end", x.set(list, n, 1), Check.BEYOND);
                for (int other = 0; other <= 3; other++) {
                    Check.due("others hold nothing", x.set(other, 99, 1), other == list ? Check.BEYOND : Check.NOTHING);
                }
            }
        }
    }

    private static void madeAnew() {
        Edges.sentence(35, "A LIST becomes a row of n longs, all 0: 1.");
        int[] sizes = {30, 0, 30, 1, 29, 2, 30};
        GrudgeDesk x = new GrudgeDesk();
        for (int size : sizes) {
            Check.due("list(2, " + size + ")", x.list(2, size), 1);
            for (int i = 0; i < size; i++) {
                Check.due("all 0 at " + i + " of " + size, x.get(2, i), 0);
                x.set(2, i, i + 1);
            }
            Check.due("no place behind", x.get(2, size), Check.NO);
        }
        Edges.twins("it changes that list alone", Edges::busy, y -> y.list(2, 4), 1, RowEdges::zeroList2);
    }

    private static long zeroList2(GrudgeDesk x) {
        for (int i = 0; i < 4; i++) {
            x.set(2, i, 0);
        }
        return 0;
    }

    private static void listRefused() {
        Edges.sentence(35, "NONE: list; BAD: n above 30; BELOW.");
        for (int n : new int[] {31, 32, 30 + (1 << 16), Integer.MAX_VALUE}) {
            for (int list = 0; list <= 3; list++) {
                int into = list;
                Edges.unmoved("list(" + list + ", " + n + ")", x -> x.list(into, n), Check.BAD);
            }
        }
        for (int n : new int[] {-1, -2, -30, -(1 << 16), Integer.MIN_VALUE}) {
            for (int list = 0; list <= 3; list++) {
                int into = list;
                Edges.unmoved("list(" + list + ", " + n + ")", x -> x.list(into, n), Check.BELOW);
            }
        }
        for (int list : Edges.outside(0, 3)) {
            for (int n : new int[] {-1, 0, 30, 31, Integer.MIN_VALUE, Integer.MAX_VALUE}) {
                Edges.unmoved("NONE is named first: list(" + list + ", " + n + ")", x -> x.list(list, n), Check.NONE);
            }
        }
        Edges.sentence(Edges.TERMS, "BELOW (-14): a size below 0.");
        Check.due("of a new object", new GrudgeDesk().list(0, -1), -14);
    }

    private static void setTaken() {
        Edges.sentence(36, "Place i of a LIST becomes v: 1.");
        for (int list = 0; list <= 3; list++) {
            GrudgeDesk x = new GrudgeDesk();
            for (int other = 0; other <= 3; other++) {
                x.list(other, 30);
            }
            Check.due("the first place", x.set(list, 0, 5), 1);
            Check.due("the last place", x.set(list, 29, 6), 1);
            for (int other = 0; other <= 3; other++) {
                for (int i = 0; i < 30; i++) {
                    long want = other != list ? 0 : i == 0 ? 5 : i == 29 ? 6 : 0;
                    Check.due("get(" + other + ", " + i + ")", x.get(other, i), want);
                }
            }
        }
    }

    private static void setRefused() {
        Edges.sentence(36, "Place i of a LIST becomes v: 1. NONE; NOTHING; BEYOND.");
        for (int i : Edges.outside(0, 29)) {
            Edges.unmoved("set(0, " + i + ") of 30", x -> x.set(0, i, 9), Check.BEYOND);
            Edges.unmoved("NOTHING ahead of BEYOND: set(3, " + i + ")", x -> x.set(3, i, 9), Check.NOTHING);
            Edges.unmoved("NONE ahead of BEYOND: set(4, " + i + ")", x -> x.set(4, i, 9), Check.NONE);
            Edges.unmoved("NONE ahead of NOTHING: set(-1, " + i + ")", GrudgeDesk::new, x -> x.set(-1, i, 9),
                    Check.NONE);
        }
        for (int i : Edges.outside(0, 3)) {
            Edges.unmoved("set(2, " + i + ") of 4", x -> x.set(2, i, 9), Check.BEYOND);
        }
        for (int i : new int[] {0, 1, -1, 29}) {
            Edges.unmoved("set(1, " + i + ") of 0", x -> x.set(1, i, 9), Check.BEYOND);
        }
        Edges.unmoved("set(3, 0) of nothing", x -> x.set(3, 0, 9), Check.NOTHING);
        for (int list : Edges.outside(0, 3)) {
            Edges.unmoved("set(" + list + ", 0)", x -> x.set(list, 0, 9), Check.NONE);
        }
        Edges.sentence(Edges.TERMS, "NOTHING (-11): there is none; BEYOND (-13): no such place;");
        Check.due("nothing", new GrudgeDesk().set(0, 0, 1), -11);
        Check.due("beyond", Edges.busy().set(1, 0, 1), -13);
    }

    private static void getRefused() {
        Edges.sentence(37, "Place i of a LIST. NO: no such LIST, nothing there, no such place.");
        Edges.unmoved("get(0, 0) of 30", x -> x.get(0, 0), 1);
        Edges.unmoved("get(0, 29) of 30", x -> x.get(0, 29), 129);
        Edges.unmoved("get(2, 3) of 4", x -> x.get(2, 3), 41);
        for (int i : Edges.outside(0, 29)) {
            Edges.unmoved("get(0, " + i + ") of 30", x -> x.get(0, i), Check.NO);
        }
        for (int i : Edges.outside(0, 3)) {
            Edges.unmoved("get(2, " + i + ") of 4", x -> x.get(2, i), Check.NO);
        }
        Edges.unmoved("get(1, 0) of 0", x -> x.get(1, 0), Check.NO);
        Edges.unmoved("get(1, -1) of 0", x -> x.get(1, -1), Check.NO);
        Edges.unmoved("get(3, 0) of nothing", x -> x.get(3, 0), Check.NO);
        for (int list : Edges.outside(0, 3)) {
            Edges.unmoved("get(" + list + ", 0)", x -> x.get(list, 0), Check.NO);
        }
    }

    private static void anyLong() {
        Edges.sentence(36, "Place i of a LIST becomes v: 1.");
        long[] longs = {Long.MIN_VALUE, Long.MIN_VALUE + 1, -1L << 32, Integer.MIN_VALUE - 1L, -14, -1, 0, 1,
            Integer.MAX_VALUE + 1L, 1L << 32, Long.MAX_VALUE};
        GrudgeDesk x = new GrudgeDesk();
        x.list(3, 1);
        for (long v : longs) {
            Check.due("set(3, 0, " + v + ")", x.set(3, 0, v), 1);
            Check.due("get(3, 0)", x.get(3, 0), v);
        }
    }

    private static void noImage() {
        Edges.sentence(39, "All is as THE IMAGE: n. STATE: there is none.");
        Supplier<GrudgeDesk> made = () -> Check.desk(4, NUMBERS);
        Edges.unmoved("undo() without an image", made, GrudgeDesk::undo, Check.STATE);
        GrudgeDesk x = Check.desk(3, NUMBERS);
        x.feed('a');
        x.list(0, 1);
        Check.due("undo()", x.undo(), Check.STATE);
        Check.due("undo() again", x.undo(), Check.STATE);
        Check.worths("as it was", x, NUMBERS);
        Check.due("image()", x.image(), 3);
        Check.due("undo() then", x.undo(), 3);
    }

    private static void images() {
        Edges.sentence(38, "THE IMAGE is taken: n.");
        Edges.sentence(Edges.TERMS, "THE IMAGE: n, WORTHS.");
        GrudgeDesk x = Check.desk(3, NUMBERS);
        Check.type(x, "dua");
        Check.row(x, 0, 1, 2);
        Check.due("image()", x.image(), 3);
        Check.worths("image() changes nothing", x, NUMBERS);
        Check.due("nor the tape", x.told(1), 3);
        x.feed('l');
        x.set(0, 0, 9);
        x.list(1, 3);
        x.people(2);
        Check.due("undo()", x.undo(), 3);
        Check.worths("undo()", x, NUMBERS);
        Check.due("the tape goes on", x.told(1), 4);
        Check.due("lists go on", x.get(0, 0), 9);
        Check.due("made ones, too", x.set(1, 2, 4), 1);
        Check.due("the tape is as it is", x.deeds(), 1);
        Check.due("undo() again: the image is there still", x.undo(), 3);
        Check.worths("undo() again", x, NUMBERS);
        x.worth(1, 8);
        x.image();
        x.worth(1, 9);
        Check.due("undo() to the later image", x.undo(), 3);
        Check.due("worthOf(1)", x.worthOf(1), 8);
        Check.due("asked behind undo()", x.fair(0, 0), Check.desk(3, 8, -5, 30, 7, 40, 50, 61).fair(0, 0));
    }

    private static void imageOfEach() {
        Edges.sentence(39, "All is as THE IMAGE: n.");
        for (int n = 2; n <= 4; n++) {
            for (int other = 2; other <= 4; other++) {
                GrudgeDesk x = Edges.busy(n);
                long all = x.worthOf((1 << n) - 1);
                Check.due("image() of " + n, x.image(), n);
                x.people(other);
                for (int g = 1; g < 1 << other; g++) {
                    x.worth(g, -999);
                }
                Check.due("undo() to " + n, x.undo(), n);
                Check.due("n", x.told(0), n);
                Check.due("worth of all", x.worthOf((1 << n) - 1), all);
                Check.due("one group more", x.worthOf(1 << n), Check.NO);
                Check.due("people(4)", x.people(4), n);
                Check.due("nothing is left", x.told(3), 0);
            }
        }
    }

    /** What comes behind it does not reach the image: no call but image() does. */
    private static void imageIsNoMore() {
        Edges.sentence(38, "THE IMAGE is taken: n.");
        GrudgeDesk x = Check.desk(3, NUMBERS);
        x.image();
        x.worth(7, 999);
        Check.deeds(x, "more ab 5;swap a b;dual;zero");
        x.people(4);
        x.people(9);
        x.worth(16, 4);
        x.would(7, 5, 0, 0);
        x.needs(7, 0, 5);
        Check.due("undo()", x.undo(), 3);
        Check.worths("undo()", x, NUMBERS);
        Edges.twins("undo() alone", Edges::busy, GrudgeDesk::undo, 2, y -> y.people(2) + y.worth(1, -21)
                + y.worth(2, 22) + y.worth(3, -23));
    }
}
