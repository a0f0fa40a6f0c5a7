import java.util.Random;

/** Promise 7: deeds as texts, their faults, what they do. */
public final class DeedsTest {
    public static void main(String[] args) {
        faults();
        longTexts();
        whatTheyDo();
        whatIsNotDone();
        textsAtRandom();
        Check.end("DeedsTest");
    }

    private static void fault(String text, int place) {
        GrudgeDesk x = Check.desk(3, 1, 2, 3, 4, 5, 6, 7);
        Check.due("fault of '" + text + "'", Check.deeds(x, text), -100 - place);
        Check.worths("a fault does nothing: " + text, x, 1, 2, 3, 4, 5, 6, 7);
        Check.due("the tape is empty behind it", x.told(1), 0);
    }

    private static void faults() {
        fault("", 0);
        fault(";", 0);
        fault(" dual", 0);
        fault("Dual", 0);
        fault("dua", 0);
        fault("duall", 0);
        fault("dualzero", 0);
        fault("dual;;dual", 5);
        fault("dual;zer", 5);
        fault("dual; zero", 5);
        fault("dual;", 5);
        fault("dual ", 4);
        fault("dual ;zero", 4);
        fault("dual3", 4);
        fault("zero,dual", 4);
        fault("people", 6);
        fault("people;", 6);
        fault("people3", 6);
        fault("people ", 7);
        fault("people  3", 7);
        fault("people x", 7);
        fault("people -", 8);
        fault("people -x", 8);
        fault("people --3", 8);
        fault("people +3", 7);
        fault("people 1234", 10);
        fault("people -1234", 11);
        fault("people 3 ", 8);
        fault("people 3;", 9);
        fault("people 3x", 8);
        fault("worth", 5);
        fault("worth;", 5);
        fault("worth ", 6);
        fault("worth  a 3", 6);
        fault("worth A 3", 6);
        fault("worth 3", 6);
        fault("worth ba 3", 6);
        fault("worth aa 3", 6);
        fault("worth abcda 3", 6);
        fault("worth e 3", 6);
        fault("worth abe 3", 6);
        fault("worth a", 7);
        fault("worth a;", 7);
        fault("worth a3", 7);
        fault("worth a ", 8);
        fault("worth a  3", 8);
        fault("worth a b", 8);
        fault("worth a -;", 9);
        fault("worth a 3 4", 9);
        fault("more", 4);
        fault("more acb 3", 5);
        fault("more ab", 7);
        fault("more ab 0000", 11);
        fault("swap", 4);
        fault("swap ", 5);
        fault("swap a", 6);
        fault("swap a ", 7);
        fault("swap ab c", 5);
        fault("swap a bc", 7);
        fault("swap e a", 5);
        fault("swap a e", 7);
        fault("swap 1 2", 5);
        fault("swap a b c", 8);
        fault("swap a bx", 7);
        fault("dual;zero;swap a", 16);
        fault("worth a 5;worth b 1000", 21);
        fault("\u0001", 0);
        fault("dual\u007f", 4);
        fault("dual\n", 4);
    }

    private static void longTexts() {
        StringBuilder text = new StringBuilder("dual");
        for (int k = 1; k < 20; k++) {
            text.append(";dual");
        }
        GrudgeDesk x = new GrudgeDesk();
        Check.due("twenty deeds", Check.deeds(x, text.toString()), 20);
        Check.due("a hundred bytes, the last a ;", Check.deeds(x, text + ";"), -200);
        Check.due("a hundred letters", Check.deeds(x, "a".repeat(100)), -100);
        Check.due("a long group", Check.deeds(x, "worth " + "a".repeat(94)), -106);
        Check.due("a long one of people", Check.deeds(x, "swap " + "a".repeat(95)), -105);
        String ahead = text.substring(0, 95);
        Check.due("a hundred bytes that end at a blank", Check.deeds(x, ahead.substring(0, 94) + ";swap "), -200);
        Check.due("a hundred bytes that end at a blank ahead of a group",
                Check.deeds(x, ahead.substring(0, 89) + ";worth    "), -196);
        Check.due("a hundred bytes of deeds", Check.deeds(x, ahead.substring(0, 89) + ";worth a 3"), 19);
        Check.due("its last one was done", x.worthOf(1), 3);
    }

    private static void whatTheyDo() {
        GrudgeDesk x = Check.desk(3, 1, 2, 3, 4, 5, 6, 7);
        Check.due("people 3", Check.deeds(x, "people 3"), 1);
        Check.worths("people 3", x, 0, 0, 0, 0, 0, 0, 0);
        Check.due("people 004", Check.deeds(x, "people 004"), 1);
        Check.due("n", x.told(0), 4);
        Check.due("worth abcd -999", Check.deeds(x, "worth abcd -999"), 1);
        Check.due("worthOf(15)", x.worthOf(15), -999);
        Check.due("worth bd 007;more bd -9;more a -0", Check.deeds(x, "worth bd 007;more bd -9;more a -0"), 3);
        Check.due("worthOf(10)", x.worthOf(10), -2);
        Check.due("worthOf(1)", x.worthOf(1), 0);

        x = Check.desk(3, 1, 20, 30, 4, 50, 60, 100);
        Check.due("dual", Check.deeds(x, "dual"), 1);
        Check.worths("dual", x, 40, 50, 96, 70, 80, 99, 100);
        x = Check.desk(3, 1, 20, 30, 4, 50, 60, 100);
        Check.due("zero", Check.deeds(x, "zero"), 1);
        Check.worths("zero", x, 0, 0, 9, 0, 45, 36, 75);
        x = Check.desk(3, 1, 20, 30, 4, 50, 60, 100);
        Check.due("swap a c", Check.deeds(x, "swap a c"), 1);
        Check.worths("swap a c", x, 4, 20, 60, 1, 50, 30, 100);
        Check.due("swap b b", Check.deeds(x, "swap b b"), 1);
        Check.worths("swap b b", x, 4, 20, 60, 1, 50, 30, 100);
        x = Check.desk(4, 1, 2, 3, 4, 5, 6, 7, 8, 9, 10, 11, 12, 13, 14, 15);
        Check.due("swap d b", Check.deeds(x, "swap d b"), 1);
        Check.worths("swap d b", x, 1, 8, 9, 4, 5, 12, 13, 2, 3, 10, 11, 6, 7, 14, 15);
        x = Check.desk(2, 5, -3, 9);
        Check.due("dual of two", Check.deeds(x, "dual"), 1);
        Check.worths("dual of two", x, 12, 4, 9);
        Check.due("one behind the other", Check.deeds(x, "people 2;worth ab 5;dual;zero;worth a 1"), 5);
        Check.worths("one behind the other", x, 1, 0, -5);
        x = Check.desk(3, 1, 20, 30, 4, 50, 60, 100);
        Check.due("dual;zero", Check.deeds(x, "dual;zero"), 2);
        Check.worths("dual;zero", x, 0, 0, 6, 0, -30, -21, -60);
        x = Check.desk(3, 1, 2, 3, 4, 5, 6, 7);
        x.stages();
        Check.deeds(x, "worth abc 999");
        Check.due("stages see what deeds did", x.level(1, 0), Check.desk(3, 1, 2, 3, 4, 5, 6, 999).level(1, 0));
    }

    private static void whatIsNotDone() {
        GrudgeDesk x = Check.desk(3, 1, 2, 3, 4, 5, 6, 7);
        Check.due("numbers of people", Check.deeds(x, "people 1;people 5;people 0;people -3;people 999"), 0);
        Check.due("groups that there aren't", Check.deeds(x, "worth d 1;worth abcd 1;more ad 1"), 0);
        Check.due("people that there aren't", Check.deeds(x, "swap a d;swap d a;swap d d"), 0);
        Check.worths("nothing was done", x, 1, 2, 3, 4, 5, 6, 7);
        Check.due("with four there are", Check.deeds(x, "people 4;worth d 1;worth abcd 1;more ad 1;swap d d"), 5);
        x = Check.desk(3, -999, 0, 0, 0, 0, 0, 999);
        Check.due("more beyond", Check.deeds(x, "more abc 1;more a -1"), 0);
        Check.due("more to the edge", Check.deeds(x, "more b 999;more c -999"), 2);
        Check.worths("more", x, -999, 999, 0, -999, 0, 0, 999);
        x = Check.desk(3, 0, 0, 0, 0, 0, -1, 999);
        Check.due("dual beyond", Check.deeds(x, "dual"), 0);
        Check.worths("dual beyond", x, 0, 0, 0, 0, 0, -1, 999);
        x = Check.desk(3, 0, 0, 0, 0, 0, 0, 999);
        Check.due("dual to the edge", Check.deeds(x, "dual"), 1);
        Check.worths("dual to the edge", x, 999, 999, 999, 999, 999, 999, 999);
        x = Check.desk(2, 500, 0, -500);
        Check.due("zero beyond", Check.deeds(x, "zero"), 0);
        Check.worths("zero beyond", x, 500, 0, -500);
        x = Check.desk(2, 500, 0, -499);
        Check.due("zero to the edge", Check.deeds(x, "zero"), 1);
        Check.worths("zero to the edge", x, 0, 0, -999);
        x = Check.desk(2, -500, 0, 500);
        Check.due("zero beyond above", Check.deeds(x, "zero"), 0);
        x = Check.desk(2, 1, 2, 3);
        Check.due("the rest is done all the same", Check.deeds(x, "worth c 5;worth a 9;swap a c"), 1);
        Check.worths("the rest", x, 9, 2, 3);
    }

    /** Texts put together from pieces, held against a reading by splitting. */
    private static void textsAtRandom() {
        String[] pieces = {"people", "worth", "more", "dual", "zero", "swap", " ", " ", " ", ";", ";", "a", "b", "ab",
            "acd", "ba", "e", "3", "12", "999", "1234", "-", "-7", "x", "A", "abcd", "d", "  "};
        Random random = new Random(7);
        for (int turn = 0; turn < 20000; turn++) {
            StringBuilder text = new StringBuilder();
            int many = random.nextInt(5);
            for (int k = 0; k < many; k++) {
                text.append(k == 0 ? "" : ";").append(soundDeed(random));
            }
            if (random.nextInt(3) != 0 && text.length() > 0) {
                int at = random.nextInt(text.length() + 1);
                String piece = pieces[random.nextInt(pieces.length)];
                text.replace(at, Math.min(text.length(), at + random.nextInt(3)), piece);
            }
            if (text.length() <= 100) {
                int fault = faultOf(text.toString());
                int got = Check.deeds(new GrudgeDesk(), text.toString());
                Check.due("fault of '" + text + "'", got < 0 ? -100 - got : -1, fault);
            }
        }
    }

    private static String soundDeed(Random random) {
        String[] groups = {"a", "b", "c", "d", "ab", "acd", "abcd", "bd"};
        String number = (random.nextBoolean() ? "-" : "") + random.nextInt(1000);
        String group = groups[random.nextInt(groups.length)];
        switch (random.nextInt(6)) {
            case 0: return "people " + number;
            case 1: return "worth " + group + " " + number;
            case 2: return "more " + group + " " + number;
            case 3: return "dual";
            case 4: return "zero";
            default: return "swap " + "abcd".charAt(random.nextInt(4)) + " " + "abcd".charAt(random.nextInt(4));
        }
    }

    /** -1: none. Grows the longest sound beginning by regular expressions, a token a time. */
    private static int faultOf(String text) {
        String rest = text;
        while (true) {
            int at = text.length() - rest.length();
            String word = rest.replaceFirst("(?s)[^a-z].*", "");
            String tokens;
            switch (word) {
                case "people": tokens = " N"; break;
                case "worth": case "more": tokens = " G N"; break;
                case "dual": case "zero": tokens = ""; break;
                case "swap": tokens = " P P"; break;
                default: return at;
            }
            rest = rest.substring(word.length());
            for (char token : tokens.toCharArray()) {
                at = text.length() - rest.length();
                String letters = rest.replaceFirst("(?s)[^a-z].*", "");
                if (token == ' ') {
                    if (!rest.startsWith(" ")) {
                        return at;
                    }
                    rest = rest.substring(1);
                } else if (token == 'N') {
                    String number = rest.replaceFirst("(?s)^(-?[0-9]{0,3}).*", "$1");
                    if (!number.matches("-?[0-9]+")) {
                        return at + number.length();
                    }
                    rest = rest.substring(number.length());
                } else if (!letters.matches(token == 'P' ? "[a-d]" : "(?=.)a?b?c?d?")) {
                    return at;
                } else {
                    rest = rest.substring(letters.length());
                }
            }
            if (rest.isEmpty()) {
                return -1;
            }
            if (rest.charAt(0) != ';') {
                return text.length() - rest.length();
            }
            rest = rest.substring(1);
        }
    }
}
