/** Edges of promise 7: texts of deeds, their faults, deeds that are not done. */
final class DeedEdges {
    private DeedEdges() {
    }

    static void all() {
        oneOrMore();
        blanks();
        groups();
        persons();
        numbers();
        words();
        whereItBegins();
        firstByte();
        endsTooEarly();
        faultDoesNothing();
        oneBehindTheOther();
        moreBeyond();
        dualBeyond();
        zeroBeyond();
        zeroAsTheyWere();
        groupsThatThereAreNot();
        onesThatThereAreNot();
        numbersOfPeople();
        swapsAll();
        emptyBehind();
        fullTape();
    }

    /** The tape is empty behind it, and that is all that has changed. */
    private static void fault(String text, int place) {
        Edges.twins("deeds of '" + text + "'", Edges::busy, x -> afresh(x, text), -100 - place, GrudgeDesk::clear);
    }

    private static int afresh(GrudgeDesk x, String text) {
        x.clear();
        return Check.deeds(x, text);
    }

    private static void done(int n, String text, int many) {
        Check.due("deeds of '" + text + "'", afresh(Edges.busy(n), text), many);
    }

    /** Not done, and nothing has changed but that the tape was read. */
    private static void notDone(GrudgeDesk x, String text) {
        long[] ahead = worths(x);
        Check.due("not done: '" + text + "'", afresh(x, text), 0);
        long[] behind = worths(x);
        for (int g = 0; g < 16; g++) {
            Check.due("behind '" + text + "': worthOf(" + g + ")", behind[g], ahead[g]);
        }
        Check.due("behind '" + text + "': bytes", x.told(1), 0);
    }

    private static long[] worths(GrudgeDesk x) {
        long[] worths = new long[16];
        worths[0] = x.told(0);
        for (int g = 1; g < 16; g++) {
            worths[g] = x.worthOf(g);
        }
        return worths;
    }

    private static void oneOrMore() {
        Edges.sentence(Edges.TERMS, "DEEDS as a text: one or more, parted by ; :");
        fault("", 0);
        done(3, "dual", 1);
        done(3, "dual;zero", 2);
        fault(";", 0);
        fault(";dual", 0);
        fault("dual;", 5);
        fault("dual;;zero", 5);
        fault("dual;zero;", 10);
        fault("dual:zero", 4);
        fault("dual<zero", 4);
        fault("dual,zero", 4);
        fault("dual zero", 4);
        fault("dualzero", 0);
        fault("people 3 dual", 8);
        fault("swap a b dual", 8);
    }

    private static void blanks() {
        Edges.sentence(Edges.TERMS, "Words with one blank between.");
        fault(" dual", 0);
        fault("dual ", 4);
        fault("dual ;zero", 4);
        fault("dual; zero", 5);
        fault("people3", 6);
        fault("people  3", 7);
        fault("people\t3", 6);
        fault("people\u001f3", 6);
        fault("people!3", 6);
        fault("people 3 ", 8);
        fault("worth  a 3", 6);
        fault("worth\na 3", 5);
        fault("worth a3", 7);
        fault("worth a-3", 7);
        fault("worth a  3", 8);
        fault("worth a 3 ", 9);
        fault("more  a 3", 5);
        fault("more a\t3", 6);
        fault("swap  a b", 5);
        fault("swap a  b", 7);
        fault("swap a\u001fb", 6);
        fault("swap a!b", 6);
        fault("swap a b ", 8);
        fault("zero ", 4);
    }

    private static void groups() {
        Edges.sentence(Edges.TERMS, "G: letters a .. d in order, none twice;");
        for (int g = 1; g <= 15; g++) {
            GrudgeDesk x = Check.desk(4);
            StringBuilder group = new StringBuilder();
            for (int p = 0; p < 4; p++) {
                group.append((g >> p & 1) == 1 ? "abcd".substring(p, p + 1) : "");
            }
            Check.due("worth " + group + " 5", Check.deeds(x, "worth " + group + " 5"), 1);
            Check.due("worthOf(" + g + ")", x.worthOf(g), 5);
            Check.due("more " + group + " -7", Check.deeds(x, "more " + group + " -7"), 1);
            Check.due("worthOf(" + g + ")", x.worthOf(g), -2);
            Check.due("no other group", x.told(3), 1);
        }
        String[] none = {"e", "`", "{", "z", "A", "D", "0", "ba", "dc", "acb", "dcba", "aa", "dd", "abb", "abcdd",
            "abcda",
            "abe", "abcde", "ea", "az", "za"};
        for (String group : none) {
            fault("worth " + group + " 3", 6);
            fault("more " + group + " 3", 5);
        }
        fault("worth aB 3", 7);
        fault("worth a` 3", 7);
        fault("worth a{ 3", 7);
    }

    private static void persons() {
        Edges.sentence(Edges.TERMS, "P: a letter a .. d;");
        for (char p = 'a'; p <= 'd'; p++) {
            for (char q = 'a'; q <= 'd'; q++) {
                done(4, "swap " + p + " " + q, 1);
            }
        }
        String[] none = {"e", "`", "{", "z", "A", "D", "0", "ab", "aa", "abcd", "az", "ea"};
        for (String one : none) {
            fault("swap " + one + " b", 5);
            fault("swap b " + one, 7);
        }
        fault("swap aB c", 6);
        fault("swap a bB", 8);
        fault("swap a b c", 8);
        fault("swap a b;swap d", 15);
    }

    private static void numbers() {
        Edges.sentence(Edges.TERMS, "N: perhaps -, 1 to 3 figures.");
        String[] fine = {"0", "9", "10", "99", "100", "999", "00", "000", "007", "070", "-0", "-000", "-9", "-99",
            "-999", "-001"};
        for (String number : fine) {
            GrudgeDesk x = new GrudgeDesk();
            Check.due("worth b " + number, Check.deeds(x, "worth b " + number), 1);
            Check.due("worthOf(2)", x.worthOf(2), Integer.parseInt(number));
            Check.due("more c " + number, Check.deeds(x, "more c " + number), 1);
            Check.due("worthOf(4)", x.worthOf(4), Integer.parseInt(number));
        }
        for (String deed : new String[] {"people ", "worth a ", "more a "}) {
            int at = deed.length();
            fault(deed, at);
            fault(deed + ";", at);
            fault(deed + "x", at);
            fault(deed + "+3", at);
            fault(deed + "/", at);
            fault(deed + ":", at);
            fault(deed + "-", at + 1);
            fault(deed + "-;", at + 1);
            fault(deed + "--3", at + 1);
            fault(deed + "- 3", at + 1);
            fault(deed + "-/", at + 1);
            fault(deed + "-:", at + 1);
            fault(deed + "3-", at + 1);
            fault(deed + "3/", at + 1);
            fault(deed + "3:", at + 1);
            fault(deed + "3x", at + 1);
            fault(deed + "1234", at + 3);
            fault(deed + "0003", at + 3);
            fault(deed + "-1234", at + 4);
            fault(deed + "-0000", at + 4);
        }
    }

    private static void words() {
        Edges.sentence(Edges.TERMS, "A word is as many letters a .. z as stand there.");
        for (String word : new String[] {"people", "worth", "more", "dual", "zero", "swap"}) {
            String rest = word.equals("people") ? " 3" : word.equals("swap") ? " a b"
                    : word.equals("worth") || word.equals("more") ? " a 3" : "";
            done(3, word + rest, 1);
            fault(word + "a" + rest, 0);
            fault(word + "z" + rest, 0);
            fault("a" + word + rest, 0);
            fault("z" + word + rest, 0);
            fault(word.substring(1) + rest, 0);
            fault(word.substring(0, word.length() - 1) + rest, 0);
            fault(word + "`" + rest, word.length());
            fault(word + "{" + rest, word.length());
            fault(word + "A" + rest, word.length());
            fault(word + "0" + rest, word.length());
            fault(word.toUpperCase() + rest, 0);
            for (int k = 0; k < word.length(); k++) {
                fault(word.substring(0, k) + "x" + word.substring(k + 1) + rest, 0);
            }
        }
    }

    private static void whereItBegins() {
        Edges.sentence(Edges.TERMS,
                "FAULT: of a word that is no DEED, a G or P that is none, where it begins (an empty one, too);");
        fault("foo", 0);
        fault("dual;foo", 5);
        fault("dual;zero;foo;dual", 10);
        fault("foo;bar", 0);
        fault("dual;worth abcb 3", 11);
        fault("dual;swap a bc", 12);
        fault("dual;", 5);
        fault("dual;;", 5);
        fault("dual;3", 5);
        fault("worth 3", 6);
        fault("worth ;", 6);
        fault("swap ;", 5);
        fault("swap a ;", 7);
        fault("swap a 3", 7);
    }

    private static void firstByte() {
        Edges.sentence(Edges.TERMS, "otherwise the place (from 0) of the first byte with which no such text goes on;");
        fault("people;", 6);
        fault("people ;", 7);
        fault("people 3,people x", 8);
        fault("worth;", 5);
        fault("worth a;", 7);
        fault("worth a ;", 8);
        fault("worth a 3 4", 9);
        fault("more;", 4);
        fault("more ab;", 7);
        fault("swap;", 4);
        fault("swap a;", 6);
        fault("swap a b3", 8);
        fault("dual3", 4);
        fault("dual\u0001", 4);
        fault("dual\u007f", 4);
        fault("\u0001", 0);
        fault("\u007f", 0);
    }

    private static void endsTooEarly() {
        Edges.sentence(Edges.TERMS, "the length, if it ends too early.");
        fault("people", 6);
        fault("people ", 7);
        fault("people -", 8);
        fault("worth", 5);
        fault("worth ", 6);
        fault("worth a", 7);
        fault("worth abcd", 10);
        fault("worth a ", 8);
        fault("worth a -", 9);
        fault("more", 4);
        fault("more ", 5);
        fault("more bd", 7);
        fault("more bd ", 8);
        fault("more bd -", 9);
        fault("swap", 4);
        fault("swap ", 5);
        fault("swap d", 6);
        fault("swap d ", 7);
        fault("dual;people", 11);
        fault("dual;", 5);
    }

    private static void faultDoesNothing() {
        Edges.sentence(Edges.TERMS, "A text with a FAULT does nothing;");
        fault("people 4;", 9);
        fault("worth a 999;foo", 12);
        fault("worth a 999;worth b 888;swap a b;dual;zero;people 2;people 1234", 62);
        fault("people 9;worth d 1;foo", 19);
    }

    private static void oneBehindTheOther() {
        Edges.sentence(Edges.TERMS, "else DEEDS are done one behind the other;");
        GrudgeDesk x = new GrudgeDesk();
        Check.due("d comes first", Check.deeds(x, "people 4;worth d 5;worth abcd 9"), 3);
        Check.due("worthOf(8)", x.worthOf(8), 5);
        x = new GrudgeDesk();
        Check.due("d comes too late", Check.deeds(x, "worth d 5;people 4"), 1);
        Check.due("worthOf(8)", x.worthOf(8), 0);
        x = new GrudgeDesk();
        Check.due("c is gone", Check.deeds(x, "worth c 5;people 2;worth c 6;swap a c"), 2);
        x = new GrudgeDesk();
        Check.due("up, too far, down, up", Check.deeds(x, "worth a 999;more a 1;more a -1;more a 1"), 3);
        Check.due("worthOf(1)", x.worthOf(1), 999);
        x = new GrudgeDesk();
        Check.due("the later one holds", Check.deeds(x, "worth a 1;worth a 2;swap a b;worth a 3"), 4);
        Check.worths("the later one holds", x, 3, 2, 0, 0, 0, 0, 0);
    }

    private static void moreBeyond() {
        Edges.sentence(Edges.TERMS, "one by which a WORTH would be beyond -999 .. 999,");
        int[][] fine = {{998, 1}, {0, 999}, {-999, 999}, {999, 0}, {-998, -1}, {0, -999}, {999, -999}, {-999, 0}};
        for (int[] worth : fine) {
            GrudgeDesk x = Check.desk(3, 0, 0, 0, 0, 0, worth[0], 0);
            Check.due("more bc " + worth[1] + " of " + worth[0], Check.deeds(x, "more bc " + worth[1]), 1);
            Check.due("worthOf(6)", x.worthOf(6), worth[0] + worth[1]);
        }
        int[][] beyond = {{999, 1}, {998, 2}, {1, 999}, {999, 999}, {-999, -1}, {-998, -2}, {-1, -999}, {-999, -999}};
        for (int[] worth : beyond) {
            notDone(Check.desk(3, 1, 2, 3, 4, 5, worth[0], 7), "more bc " + worth[1]);
        }
    }

    /** For each part by its own: of all others so much that it comes to the edge, or one beyond. */
    private static void dualBeyond() {
        Edges.sentence(Edges.TERMS, "dual (WORTH of each PART becomes that of ALL less that of all others)");
        for (int n = 2; n <= 4; n++) {
            int all = (1 << n) - 1;
            for (int g = 1; g < all; g++) {
                for (int sign = -1; sign <= 1; sign += 2) {
                    GrudgeDesk x = Check.desk(n);
                    x.worth(all, sign * 500);
                    x.worth(all ^ g, sign * -499);
                    Check.due("dual to the edge of " + g, Check.deeds(x, "dual"), 1);
                    Check.due("worthOf(" + g + ")", x.worthOf(g), sign * 999);
                    Check.due("worthOf all", x.worthOf(all), sign * 500);
                    x = Check.desk(n);
                    x.worth(all, sign * 500);
                    x.worth(all ^ g, sign * -500);
                    notDone(x, "dual");
                }
            }
        }
    }

    private static void zeroBeyond() {
        Edges.sentence(Edges.TERMS, "one by which a WORTH would be beyond -999 .. 999,");
        for (int n = 2; n <= 4; n++) {
            for (int g = 3; g < 1 << n; g++) {
                for (int sign = -1; sign <= 1; sign += 2) {
                    if (Integer.bitCount(g) > 1) {
                        zeroBeyond(n, g, sign);
                    }
                }
            }
        }
    }

    /** All of the group are worth 100 alone; other groups just as much as theirs together. */
    private static void zeroBeyond(int n, int group, int sign) {
        GrudgeDesk x = Check.desk(n);
        for (int g = 1; g < 1 << n; g++) {
            x.worth(g, -sign * 100 * Integer.bitCount(g & group));
        }
        int edge = sign * (999 - 100 * Integer.bitCount(group));
        x.worth(group, edge + sign);
        notDone(x, "zero");
        x.worth(group, edge);
        Check.due("zero to the edge of " + group, Check.deeds(x, "zero"), 1);
        for (int g = 1; g < 1 << n; g++) {
            Check.due("worthOf(" + g + ")", x.worthOf(g), g == group ? sign * 999 : 0);
        }
    }

    private static void zeroAsTheyWere() {
        Edges.sentence(Edges.TERMS,
                "zero (WORTH of each GROUP is less by what its PEOPLE are worth each alone, as they were)");
        GrudgeDesk x = Check.desk(4, 1, 10, 0, 100, 0, 0, 0, 400, 0, 0, 0, 0, 0, 0, 0);
        Check.due("zero", Check.deeds(x, "zero"), 1);
        Check.worths("zero", x, 0, 0, -11, 0, -101, -110, -111, 0, -401, -410, -411, -500, -501, -510, -511);
        Check.due("zero of zeros", Check.deeds(x, "zero"), 1);
        Check.worths("zero of zeros", x, 0, 0, -11, 0, -101, -110, -111, 0, -401, -410, -411, -500, -501, -510, -511);
    }

    private static void groupsThatThereAreNot() {
        Edges.sentence(Edges.TERMS,
                "or that names a GROUP, one of PEOPLE, a number of PEOPLE that there isn't, is not done.");
        done(2, "worth ab 1;more ab 1;worth b 1", 3);
        done(3, "worth abc 1;more abc 1;worth c 1", 3);
        done(4, "worth abcd 1;more abcd 1;worth d 1", 3);
        for (String group : new String[] {"c", "ac", "bc", "abc", "d", "abcd"}) {
            notDone(Edges.busy(2), "worth " + group + " 1");
            notDone(Edges.busy(2), "more " + group + " 1");
        }
        for (String group : new String[] {"d", "ad", "bd", "cd", "abd", "bcd", "abcd"}) {
            notDone(Edges.busy(3), "worth " + group + " 0");
            notDone(Edges.busy(3), "more " + group + " 0");
        }
        GrudgeDesk x = Edges.busy(3);
        afresh(x, "worth d 9;more abcd 9;people 4");
        Check.due("it was not done: d", x.worthOf(8), 0);
        Check.due("it was not done: abcd", x.worthOf(15), 0);
    }

    private static void onesThatThereAreNot() {
        Edges.sentence(Edges.TERMS,
                "or that names a GROUP, one of PEOPLE, a number of PEOPLE that there isn't, is not done.");
        done(2, "swap a b;swap b b;swap b a", 3);
        done(3, "swap a c;swap c c;swap c b", 3);
        done(4, "swap a d;swap d d;swap d b", 3);
        notDone(Edges.busy(2), "swap a c;swap c a;swap c c;swap d a;swap c d");
        notDone(Edges.busy(3), "swap a d;swap d a;swap d d;swap d c");
    }

    private static void numbersOfPeople() {
        Edges.sentence(Edges.TERMS,
                "or that names a GROUP, one of PEOPLE, a number of PEOPLE that there isn't, is not done.");
        for (int n = 2; n <= 4; n++) {
            for (int to = 2; to <= 4; to++) {
                GrudgeDesk x = Edges.busy(n);
                Check.due("people " + to + " of " + n, afresh(x, "people " + to), 1);
                Check.due("n", x.told(0), to);
                for (int g = 1; g < 1 << to; g++) {
                    Check.due("people " + to + ": worthOf(" + g + ")", x.worthOf(g), 0);
                }
            }
            for (String number : new String[] {"1", "5", "0", "-0", "-1", "-2", "-3", "-4", "12", "999", "-999",
                    "001", "005"}) {
                notDone(Edges.busy(n), "people " + number);
            }
        }
    }

    private static void swapsAll() {
        Edges.sentence(Edges.TERMS, "swap P P (two PEOPLE, or one twice, change places in all GROUPS)");
        for (int n = 2; n <= 4; n++) {
            for (int p = 0; p < n; p++) {
                for (int q = 0; q < n; q++) {
                    GrudgeDesk x = Edges.busy(n);
                    long[] ahead = worths(x);
                    Check.due("swap", afresh(x, "swap " + "abcd".charAt(p) + " " + "abcd".charAt(q)), 1);
                    for (int g = 1; g < 1 << n; g++) {
                        int turned = g & ~(1 << p | 1 << q) | (g >> p & 1) << q | (g >> q & 1) << p;
                        Check.due("swap of " + p + " and " + q + ": " + g, x.worthOf(g), ahead[turned]);
                    }
                }
            }
        }
    }

    private static void emptyBehind() {
        Edges.sentence(Edges.TERMS, "-100 less the FAULT of a text; THE TAPE is empty behind each call that reads it.");
        for (String text : new String[] {"", "dual", "foo", "dual;", "swap a d", "people 5;worth d 1"}) {
            GrudgeDesk x = new GrudgeDesk();
            Check.deeds(x, text);
            Check.due("bytes behind '" + text + "'", x.told(1), 0);
            Check.due("clear() behind '" + text + "'", x.clear(), 0);
            Check.due("deeds() behind '" + text + "'", x.deeds(), -100);
            Check.due("feed() behind '" + text + "'", x.feed('d'), 1);
        }
    }

    private static void fullTape() {
        Edges.sentence(7, "THE TAPE is DEEDS: how many were done; -100 less the FAULT.");
        Check.due("an empty tape", new GrudgeDesk().deeds(), -100);
        Check.due("one deed", Check.deeds(new GrudgeDesk(), "dual"), 1);
        Check.due("twenty deeds in 99 bytes", Check.deeds(new GrudgeDesk(), "dual;".repeat(19) + "dual"), 20);
        Check.due("nineteen in 100", DeskEdges.withFullTape().deeds(), 19);
        Check.due("none of twelve", Check.deeds(new GrudgeDesk(), "swap d a" + ";swap a d".repeat(10)), 0);
        Check.due("some of three", Check.deeds(new GrudgeDesk(), "people 5;people 4;people 1"), 1);
        fault("a".repeat(100), 0);
        fault(";".repeat(100), 0);
        fault("dual;".repeat(20), 100);
        fault("dual;".repeat(19) + "zerox", 95);
        fault("dual;".repeat(19) + "zero ", 99);
        fault("dual;".repeat(19) + "swap ", 100);
        fault("dual;".repeat(18) + "worth a  3", 98);
        fault("dual;".repeat(18) + "worth a 3-", 99);
        fault("dual;".repeat(18) + "worth ab -", 100);
        fault("dual;".repeat(18) + "worth abcd", 100);
        fault("dual;".repeat(18) + "worth abcb", 96);
        fault("worth " + "d".repeat(94), 6);
        fault("swap a " + "b".repeat(93), 7);
        fault("people " + "3".repeat(93), 10);
        fault("people" + " ".repeat(94), 7);
    }
}
