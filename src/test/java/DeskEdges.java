/** Edges of promises 1 to 6 and 8, and of the terms that they use. */
final class DeskEdges {
    private DeskEdges() {
    }

    static void all() {
        aNewObject();
        peopleTaken();
        peopleRefused();
        groupsTaken();
        groupsRefused();
        worthsTaken();
        worthsRefused();
        worthTellsWhatItWas();
        bytesTaken();
        bytesRefused();
        fullTape();
        clearEmptyAndFull();
        toldTaken();
        toldRefused();
        callsToTheLast();
    }

    private static void aNewObject() {
        Edges.sentence(1, "Three PEOPLE, all WORTHS 0.");
        Check.due("n", new GrudgeDesk().told(0), 3);
        Check.worths("new", new GrudgeDesk(), 0, 0, 0, 0, 0, 0, 0);
        Check.due("a group of four", new GrudgeDesk().worthOf(8), Check.NO);
        Check.due("it has nobody told below 0", new GrudgeDesk().told(3), 0);
        Edges.sentence(Edges.TERMS, "THE TAPE holds 0 .. 100 bytes.");
        Check.due("new: bytes", new GrudgeDesk().told(1), 0);
        Check.due("new: cleared", new GrudgeDesk().clear(), 0);
        Edges.sentence(Edges.TERMS, "LISTS 0 .. 3 hold nothing (at first)");
        for (int list = 0; list < 4; list++) {
            Check.due("new: list " + list, new GrudgeDesk().set(list, 0, 1), Check.NOTHING);
        }
        Edges.sentence(39, "STATE: there is none.");
        Check.due("new: undo", new GrudgeDesk().undo(), Check.STATE);
    }

    private static void peopleTaken() {
        Edges.sentence(2, "There are n PEOPLE, all WORTHS 0: what n was.");
        for (int from = 2; from <= 4; from++) {
            for (int to = 2; to <= 4; to++) {
                String what = "people(" + to + ") of " + from;
                GrudgeDesk x = Edges.busy(from);
                Check.due(what, x.people(to), from);
                Check.due(what + ": n", x.told(0), to);
                allZero(what, x, to);
                Check.due(what + ", then to four", x.people(4), to);
                allZero(what + ", then to four", x, 4);
            }
        }
        Edges.twins("people() leaves tape, lists and image", Edges::busy, x -> x.people(3), 3,
                x -> zeros(x, 7));
    }

    private static void allZero(String what, GrudgeDesk x, int n) {
        int all = (1 << n) - 1;
        for (int g = 1; g <= all; g++) {
            Check.due(what + ": worthOf(" + g + ")", x.worthOf(g), 0);
        }
        Check.due(what + ": one group more", x.worthOf(all + 1), Check.NO);
    }

    private static long zeros(GrudgeDesk x, int all) {
        for (int g = 1; g <= all; g++) {
            x.worth(g, 0);
        }
        return 0;
    }

    private static void peopleRefused() {
        Edges.sentence(2, "what n was. BAD.");
        for (int n : Edges.outside(2, 4)) {
            Edges.unmoved("people(" + n + ")", x -> x.people(n), Check.BAD);
        }
        Edges.unmoved("people(0)", x -> x.people(0), Check.BAD);
        Edges.unmoved("people(-3)", x -> x.people(-3), Check.BAD);
    }

    private static void groupsTaken() {
        Edges.sentence(Edges.TERMS, "GROUPS: sets of them, not empty, as bits (1 a, 2 b, 4 c, 8 d)");
        for (int n = 2; n <= 4; n++) {
            int all = (1 << n) - 1;
            for (int g = 1; g <= all; g++) {
                GrudgeDesk x = Check.desk(n);
                Check.due("worth(" + g + ", 5) of " + n, x.worth(g, 5), 0);
                for (int h = 1; h <= all; h++) {
                    Check.due("worthOf(" + h + ") behind worth(" + g + ", 5)", x.worthOf(h), g == h ? 5 : 0);
                }
            }
        }
    }

    private static void groupsRefused() {
        for (int n = 2; n <= 4; n++) {
            int people = n;
            for (int group : Edges.outside(1, (1 << n) - 1)) {
                Edges.sentence(3, "NO: no such GROUP, v.");
                Edges.unmoved("worth(" + group + ", 5) of " + n, () -> Edges.busy(people),
                        x -> x.worth(group, 5), Check.NO);
                Edges.sentence(4, "WORTH of a GROUP. NO: no such.");
                Edges.unmoved("worthOf(" + group + ") of " + n, () -> Edges.busy(people),
                        x -> x.worthOf(group), Check.NO);
            }
        }
    }

    private static void worthsTaken() {
        Edges.sentence(Edges.TERMS, "WORTH of each GROUP: -999 .. 999 (0 at first).");
        for (int n = 2; n <= 4; n++) {
            GrudgeDesk x = Check.desk(n);
            for (int g = 1; g < 1 << n; g++) {
                Check.due("worth(" + g + ", 999)", x.worth(g, 999), 0);
                Check.due("worthOf(" + g + ")", x.worthOf(g), 999);
                Check.due("worth(" + g + ", -999)", x.worth(g, -999), 999);
                Check.due("worthOf(" + g + ")", x.worthOf(g), -999);
            }
        }
    }

    private static void worthsRefused() {
        Edges.sentence(3, "WORTH of a GROUP becomes v: what it was. NO: no such GROUP, v.");
        for (int v : Edges.outside(-999, 999)) {
            for (int g = 1; g <= 7; g++) {
                int group = g;
                Edges.unmoved("worth(" + g + ", " + v + ")", x -> x.worth(group, v), Check.NO);
            }
            Edges.unmoved("worth(0, " + v + ")", x -> x.worth(0, v), Check.NO);
            Edges.unmoved("worth(8, " + v + ")", x -> x.worth(8, v), Check.NO);
        }
    }

    private static void worthTellsWhatItWas() {
        Edges.sentence(3, "WORTH of a GROUP becomes v: what it was.");
        GrudgeDesk x = new GrudgeDesk();
        int was = 0;
        for (int v : new int[] {-1, -2, -3, -4, -5, 0, 0, 1, 999, -999, -999}) {
            Check.due("worth(7, " + v + ")", x.worth(7, v), was);
            was = v;
        }
    }

    private static void bytesTaken() {
        Edges.sentence(5, "A byte (1 .. 127) comes behind THE TAPE's: how many it has.");
        for (int letter = 1; letter <= 127; letter++) {
            GrudgeDesk x = new GrudgeDesk();
            Check.due("feed(" + letter + ")", x.feed(letter), 1);
            Check.due("bytes", x.told(1), 1);
        }
        GrudgeDesk x = new GrudgeDesk();
        for (int many = 1; many <= 100; many++) {
            Check.due("feed to " + many, x.feed(many == 50 ? 1 : 127), many);
            Check.due("bytes", x.told(1), many);
        }
    }

    private static void bytesRefused() {
        Edges.sentence(5, "how many it has. BAD; FULL.");
        for (int letter : Edges.outside(1, 127)) {
            Edges.unmoved("feed(" + letter + ")", x -> x.feed(letter), Check.BAD);
            Edges.unmoved("feed(" + letter + ") to an empty tape", GrudgeDesk::new, x -> x.feed(letter), Check.BAD);
        }
        Edges.unmoved("feed(256 + 'a')", x -> x.feed(256 + 'a'), Check.BAD);
    }

    /** Five bytes a deed, twenty of them: more of the tape is not to be had. */
    static GrudgeDesk withFullTape() {
        GrudgeDesk x = Edges.busy();
        x.clear();
        Check.type(x, "dual;".repeat(18) + "worth a 77");
        return x;
    }

    private static void fullTape() {
        Edges.sentence(5, "how many it has. BAD; FULL.");
        Check.due("bytes of a full tape", withFullTape().told(1), 100);
        for (int letter : new int[] {1, 'a', ';', 127}) {
            Edges.unmoved("feed(" + letter + ") to a full tape", DeskEdges::withFullTape,
                    x -> x.feed(letter), Check.FULL);
        }
        for (int letter : Edges.outside(1, 127)) {
            Edges.unmoved("BAD is named ahead of FULL: feed(" + letter + ")", DeskEdges::withFullTape,
                    x -> x.feed(letter), Check.BAD);
        }
        GrudgeDesk x = withFullTape();
        x.feed('9');
        Check.due("the 101st byte is not there", x.deeds(), 19);
        Check.due("worthOf(1)", x.worthOf(1), 77);
        Check.due("there is room again", x.feed('a'), 1);
    }

    private static void clearEmptyAndFull() {
        Edges.sentence(6, "THE TAPE is empty then: how many bytes it had.");
        Edges.unmoved("clear() of an empty tape", GrudgeDesk::new, GrudgeDesk::clear, 0);
        for (int many : new int[] {1, 2, 99, 100}) {
            GrudgeDesk x = new GrudgeDesk();
            Check.type(x, "d".repeat(many));
            Check.due("clear() of " + many, x.clear(), many);
            Check.due("bytes behind clear()", x.told(1), 0);
            Check.due("clear() again", x.clear(), 0);
            Check.due("deeds() of the empty tape", x.deeds(), -100);
            Check.due("feed() behind clear()", x.feed('a'), 1);
        }
        Check.due("a tape that was full takes", Check.deeds(cleared(withFullTape()), "more ab 5;swap a b"), 2);
        Edges.twins("clear() changes the tape alone", DeskEdges::withFullTape, GrudgeDesk::clear, 100,
                x -> x.deeds() + x.worth(1, 3) + x.worth(2, -5) + x.worth(3, 30) + x.worth(4, 7)
                        + x.worth(5, 40) + x.worth(6, 50) + x.worth(7, 61));
    }

    private static GrudgeDesk cleared(GrudgeDesk x) {
        x.clear();
        return x;
    }

    private static void toldTaken() {
        Edges.sentence(8, "What 0 n, 1 bytes of THE TAPE, 2 GROUPS there are, 3 GROUPS with WORTH below 0.");
        for (int n = 2; n <= 4; n++) {
            int all = (1 << n) - 1;
            GrudgeDesk x = Check.desk(n);
            Check.due("told(0)", x.told(0), n);
            Check.due("told(1), empty", x.told(1), 0);
            Check.due("told(2)", x.told(2), all);
            Check.due("told(3), all 0", x.told(3), 0);
            for (int g = 1; g <= all; g++) {
                x.worth(g, -1);
                Check.due("told(3), " + g + " of -1", x.told(3), g);
            }
            x.worth(all, 0);
            Check.due("told(3): 0 is not below 0", x.told(3), all - 1);
            x.worth(1, 1);
            Check.due("told(3): nor is 1", x.told(3), all - 2);
        }
        GrudgeDesk x = Check.desk(4, -1, -1, -1, -1, -1, -1, -1, -1, -1, -1, -1, -1, -1, -1, -1);
        x.people(2);
        Check.due("told(3): nothing is left of four", x.told(3), 0);
        Check.due("told(1), full", withFullTape().told(1), 100);
        for (int what = 0; what <= 3; what++) {
            int asked = what;
            Edges.unmoved("told(" + what + ")", y -> y.told(asked), new int[] {3, 18, 7, 1}[what]);
        }
    }

    private static void toldRefused() {
        Edges.sentence(8, "3 GROUPS with WORTH below 0. NONE.");
        for (int what : Edges.outside(0, 3)) {
            Edges.unmoved("told(" + what + ")", x -> x.told(what), Check.NONE);
        }
    }

    private static void callsToTheLast() {
        Edges.sentence(Edges.TERMS, "An object is used for at most 512 calls after it has been made");
        GrudgeDesk x = new GrudgeDesk();
        for (int call = 1; call < 512; call++) {
            Check.due("call " + call, x.worth(7, call % 2 == 0 ? -call : call),
                    call == 1 ? 0 : call % 2 == 0 ? call - 1 : 1 - call);
        }
        Check.due("call 512", x.worthOf(7), 511);
        Check.due("another object", new GrudgeDesk().worthOf(7), 0);
    }
}
