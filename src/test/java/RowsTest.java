/** Promises 35 to 39: list, set, get, image, undo. */
public final class RowsTest {
    public static void main(String[] args) {
        lists();
        wrongNumbers();
        images();
        Check.end("RowsTest");
    }

    private static void lists() {
        GrudgeDesk x = new GrudgeDesk();
        for (int list = 0; list < 4; list++) {
            Check.due("get of nothing", x.get(list, 0), Check.NO);
            Check.due("set of nothing", x.set(list, 0, 1), Check.NOTHING);
            Check.due("list", x.list(list, 30), 1);
            for (int i = 0; i < 30; i++) {
                Check.due("all 0", x.get(list, i), 0);
                Check.due("set", x.set(list, i, 100 * list + i + 1), 1);
            }
        }
        for (int list = 0; list < 4; list++) {
            for (int i = 0; i < 30; i++) {
                Check.due("each its own", x.get(list, i), 100 * list + i + 1);
            }
        }
        x.set(0, 3, Long.MIN_VALUE + 1);
        Check.due("a long below", x.get(0, 3), Long.MIN_VALUE + 1);
        x.set(0, 3, Long.MAX_VALUE);
        Check.due("a long above", x.get(0, 3), Long.MAX_VALUE);
        Check.due("made anew", x.list(0, 5), 1);
        for (int i = 0; i < 5; i++) {
            Check.due("all 0 again", x.get(0, i), 0);
        }
        Check.due("behind its end", x.get(0, 5), Check.NO);
        x.list(0, 30);
        Check.due("longer again, all 0", x.get(0, 29), 0);
        Check.due("a row of 0", x.list(1, 0), 1);
        Check.due("set in a row of 0", x.set(1, 0, 1), Check.BEYOND);
        Check.due("get in a row of 0", x.get(1, 0), Check.NO);
    }

    private static void wrongNumbers() {
        GrudgeDesk x = new GrudgeDesk();
        int[] none = {-1, 4, Integer.MIN_VALUE, Integer.MAX_VALUE};
        for (int list : none) {
            Check.due("list(" + list + ")", x.list(list, 3), Check.NONE);
            Check.due("NONE ahead of BAD", x.list(list, 31), Check.NONE);
            Check.due("NONE ahead of BELOW", x.list(list, -1), Check.NONE);
            Check.due("set(" + list + ")", x.set(list, 0, 1), Check.NONE);
            Check.due("get(" + list + ")", x.get(list, 0), Check.NO);
        }
        Check.due("31 of nothing", x.list(0, 31), Check.BAD);
        Check.due("nothing all the same", x.set(0, 0, 1), Check.NOTHING);
        Check.due("NOTHING ahead of BEYOND", x.set(0, -1, 1), Check.NOTHING);
        Check.row(x, 0, 1, 2, 3);
        Check.due("31", x.list(0, 31), Check.BAD);
        Check.due("the greatest int", x.list(0, Integer.MAX_VALUE), Check.BAD);
        Check.due("-1", x.list(0, -1), Check.BELOW);
        Check.due("the least int", x.list(0, Integer.MIN_VALUE), Check.BELOW);
        Check.due("what is answered so changes nothing", x.get(0, 2), 3);
        int[] beyond = {-1, 3, 30, Integer.MIN_VALUE, Integer.MAX_VALUE};
        for (int i : beyond) {
            Check.due("set at " + i, x.set(0, i, 1), Check.BEYOND);
            Check.due("get at " + i, x.get(0, i), Check.NO);
        }
    }

    private static void images() {
        GrudgeDesk x = new GrudgeDesk();
        Check.due("no image", x.undo(), Check.STATE);
        Check.tell(x, 1, 2, 3, 4, 5, 6, 7);
        Check.due("image", x.image(), 3);
        x.people(4);
        x.worth(15, 9);
        x.feed('a');
        Check.row(x, 0, 5);
        Check.due("undo", x.undo(), 3);
        Check.due("n", x.told(0), 3);
        Check.worths("undone", x, 1, 2, 3, 4, 5, 6, 7);
        Check.due("the tape is no part of it", x.told(1), 1);
        Check.due("nor are lists", x.get(0, 0), 5);
        x.worth(1, 99);
        Check.due("undo again", x.undo(), 3);
        Check.due("the image is still there", x.worthOf(1), 1);
        x.people(2);
        x.worth(3, 8);
        Check.due("another image", x.image(), 2);
        x.people(3);
        Check.due("undo to two", x.undo(), 2);
        Check.worths("two", x, 0, 0, 8);
        x.people(4);
        Check.due("nothing of three is left", x.worthOf(7), 0);
        Check.due("worths told behind an image", x.worth(15, 3), 0);
        x.undo();
        Check.due("no group of four is left", x.worthOf(15), Check.NO);
    }
}
