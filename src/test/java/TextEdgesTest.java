/** The text of a town at its bounds: each sentence about TOKENS, ITEMS and the FAULT. */
public final class TextEdgesTest {
    private static final String[] WORDS = {"town", "pulls", "build", "string", "years"};

    /** A TEXT that is as told: so many ITEMS. */
    private static LevelGone reads(String text, int items) {
        LevelGone x = Towns.rich();
        int[] before = Seen.statuses(x);
        Due.is("read() of \"" + text + "\"", Towns.read(x, text), items);
        Seen.counted("\"" + text + "\"", x, before, Seen.NONE);
        return x;
    }

    /** A TEXT of which the rest begins with the TOKEN that can not stand there; all stays. */
    private static void fault(String ahead, String rest) {
        String text = ahead + rest;
        Seen.asked("read() of \"" + text + "\"", () -> {
            LevelGone x = Towns.rich();
            Towns.typeIn(x, text);
            return x;
        }, LevelGone::read, -10 - ahead.length());
    }

    private static void tooEarly(String text) {
        fault(text, "");
    }

    private static String times(int n, String part) {
        return part.repeat(n);
    }

    /** "the TEXT's length, if it ends too early (an empty one, too)": behind each TOKEN of each ITEM. */
    private static void endsTooEarly() {
        tooEarly("");
        tooEarly(" ");
        tooEarly(times(150, " "));
        String[] items = {"pulls 1 2 3 4 5 6", "build 1 2", "string 1 2", "years 9", "pulls 18"};
        tooEarly("town");
        tooEarly("town ");
        tooEarly("town 3");
        tooEarly("town 3   ");
        for (String item : items) {
            for (int end = 1; end <= item.length(); end++) {
                boolean token = end == item.length() || item.charAt(end) == ' ' || item.charAt(end - 1) == ' ';
                if (token) {
                    tooEarly("town 3;" + item.substring(0, end));
                    tooEarly("town 3;" + item.substring(0, end) + "  ");
                }
            }
        }
        tooEarly(times(143, " ") + "town  5");
        reads(times(143, " ") + "town 5;", 1);
    }

    /** "ITEMS, each ended by ;". */
    private static void endedByStops() {
        reads("town 3;", 1);
        reads("town 3;pulls 1;", 2);
        reads("town 3;pulls 1 2 3 4 5 6;build 1 2;string 1 2;years 9;", 5);
        for (String word : WORDS) {
            fault("town 3 ", word + " 1;");
            fault("town 3;pulls 1 ", word + " 1 1;");
            fault("town 3;pulls 1 2 3 4 5 6 ", word);
            fault("town 3;build 1 1 ", word + " 1 1;");
            fault("town 3;string 1 1 ", word);
            fault("town 3;years 1 ", word + ";");
        }
        fault("town 3 ", "3;");
        fault("town 3;build 1 1 ", "1;");
        fault("town 3;string 1 1 ", "1;");
        fault("town 3;years 1 ", "1;");
    }

    /** "town KIND (once, first of all)"; "town again, anything ahead of it". */
    private static void townOnceAndFirst() {
        for (int kind = 0; kind <= 5; kind++) {
            Due.is("KIND", reads("town " + kind + ";", 1).now(0), kind);
            fault("town " + kind + ";", "town " + kind + ";");
            fault("town " + kind + ";years 1;", "town 0;");
            fault("town " + kind + "; ", "town");
        }
        for (String word : WORDS) {
            if (!word.equals("town")) {
                fault("", word + " 1 1;");
                fault("  ", word + " 1;town 0;");
            }
        }
        fault("", ";town 0;");
        fault("", "0 town 0;");
        fault(" ", "00;town 0;");
        fault("", "000;town 0;");
        fault("", "toown 0;");
        fault("", ".town 0;");
        fault("town ", "6;");
        fault("town ", "99;");
    }

    /** "words of letters a .. z"; "a word that is none". */
    private static void wordsThatAreNone() {
        for (String word : WORDS) {
            String ahead = word.equals("town") ? "" : "town 0;";
            fault(ahead, word.substring(0, word.length() - 1) + " 1 1;");
            fault(ahead, word.substring(0, word.length() - 1));
            fault(ahead, word.substring(1) + " 1 1;");
            fault(ahead, "z" + word.substring(1) + " 1 1;");
            fault(ahead, word + "s 1 1;");
            fault(ahead, "a" + word + " 1 1;");
            fault(ahead, word.substring(0, word.length() - 1) + "z 1 1;");
            fault(ahead, word.toUpperCase() + " 1 1;");
            fault(ahead, Character.toUpperCase(word.charAt(0)) + word.substring(1) + " 1 1;");
            fault(ahead, word + word + " 1 1;");
        }
        fault("town 0;", "a");
        fault("town 0;", "z 1;");
        fault("town 0;", "kind 1;");
        fault("town ", "plain;");
        fault("town 0;build 0 ", "hut;");
        fault("town 0;years ", "one;");
        // a capital behind small letters ends the word
        fault("town 0;", "yearS 1;");
        fault("town", "S 0;");
    }

    /** "pulls and 1 to 6 numbers"; "a 7th number". */
    private static void howManyPulls() {
        StringBuilder text = new StringBuilder("town 2;pulls");
        fault(text.toString(), ";");
        for (int n = 1; n <= 6; n++) {
            text.append(' ').append(9 + n);
            LevelGone x = reads(text + ";", 2);
            for (int y = 0; y < 6; y++) {
                Due.is("PULL " + y + " of " + n, x.pull(y, 0), y < n ? y + 1 : 0);
            }
        }
        fault(text + " ", "9;");
        fault(text + " ", "19;");
        fault(text + " ", "999;");
        fault(text + " ", "9 9;");
        fault(text + " ", "9");
    }

    /** "0 .. 18: 9 more than PULLS". */
    private static void pullsAsTold() {
        for (int number = 0; number <= 18; number++) {
            Due.is("pulls " + number, reads("town 0;pulls " + number + ";", 2).pull(0, 0), number - 9);
            Due.is("sixth of pulls " + number, reads("town 0;pulls 9 9 9 9 9 " + number + ";", 2).pull(5, 0), number - 9);
        }
        for (String number : new String[] {"19", "20", "90", "99"}) {
            fault("town 0;pulls ", number + ";");
            fault("town 0;pulls 18 0 9 9 9 ", number + ";");
        }
        fault("town 0;pulls ", "-1;");
        // told again: others stay
        LevelGone again = reads("town 0;pulls 10 11 12 13 14 15;pulls 0 18;", 3);
        int[] pulls = {-9, 9, 3, 4, 5, 6};
        for (int y = 0; y < 6; y++) {
            Due.is("PULL " + y + " told again", again.pull(y, 0), pulls[y]);
        }
    }

    /** "build p KIND (by THE LEVEL); string p KIND": PLOTS 0 .. 5, KINDS 0 .. 5. */
    private static void plotsAndKinds() {
        for (String word : new String[] {"build", "string"}) {
            for (int p = 0; p <= 5; p++) {
                for (int kind = 0; kind <= 5; kind++) {
                    LevelGone x = reads("town 0;" + word + p + " " + kind + ";", 2);
                    Due.is("KIND", x.of(p, 0, 0), kind);
                    Due.is("one STOREY", x.count(0), 1);
                }
                fault("town 0;" + word + " " + p + " ", "6;");
                fault("town 0;" + word + " " + p + " ", "10;");
                fault("town 0;" + word + " " + p, ";");
            }
            fault("town 0;" + word + " ", "6 0;");
            fault("town 0;" + word + " ", "60 0;");
            fault("town 0;" + word + " ", "99 9;");
            fault("town 0;" + word, ";");
            fault("town 0;" + word + " 0 0 ", "0;");
        }
        // by THE LEVEL it is tilted, by string not
        LevelGone x = reads("town 1;years 3;build 0 3;string 1 3;", 4);
        Due.is("by THE LEVEL", x.of(0, 0, 1), 2);
        Due.is("by string", x.of(1, 0, 1), 0);
        // what does not STAND falls
        Due.is("fell", reads("town 1;years 3;build 0 2;", 3).count(0), 0);
    }

    /** "years n (1 .. 99: so many go by, where it stands)". */
    private static void yearsAsTold() {
        for (int n = 1; n <= 99; n++) {
            LevelGone x = reads("town 1;years " + n + ";", 2);
            Due.is("years", x.now(2), n);
            Due.is("off", x.now(1), Math.min(9, (n + 1) / 2));
        }
        fault("town 1;years ", "0;");
        fault("town 1;years ", "00;");
        fault("town 1;years ", "100;");
        fault("town 1;years ", "001;");
        fault("town 1;years", ";");
        LevelGone x = reads("town 1;build 0 0;years 1;build 1 0;years 2;build 2 0;", 6);
        for (int p = 0; p <= 2; p++) {
            Due.is("built where it stands", x.of(p, 0, 1), p);
        }
        LevelGone pulls = reads("town 2;years 1;pulls 18 18 18 18 18 18;years 2;pulls 0 0 0 0 0 0;years 1;", 6);
        Due.is("PULLS, where they stand", pulls.now(1), 1);
        // 17 times 99 years go into 150 bytes
        LevelGone most = reads("town 1;" + times(17, "years99;"), 18);
        Due.is("the YEAR", most.now(2), 1683);
    }

    /** "figures (1 or 2 are one number)"; "a run of three figures or more (at its first one)". */
    private static void figures() {
        Due.is("5", reads("town 5;", 1).now(0), 5);
        Due.is("05", reads("town 05;", 1).now(0), 5);
        Due.is("00", reads("town 00;", 1).now(0), 0);
        Due.is("09", reads("town 0;years 09;", 2).now(2), 9);
        reads("town 00;build 05 05;string 05 00;pulls 00 01 09 10 18;years 01;", 5);
        for (String run : new String[] {"000", "001", "005", "100", "0000", "00000000000000000001", "99999999999"}) {
            fault("town ", run + ";");
            fault("town ", run);
            fault("", run);
            fault("town 0;", run + ";");
            fault("town 0;build ", run + " 0;");
            fault("town 0;build 0 ", run + ";");
            fault("town 0;string 0 ", run);
            fault("town 0;years ", run + ";");
            fault("town 0;pulls ", run + ";");
            fault("town 0;pulls 9 9 9 9 9 9 ", run + ";");
            fault("town 0 ", run + ";");
        }
    }

    /** "blanks (32), any number ahead of, between and behind TOKENS (needed only between two words, two numbers)". */
    private static void blanks() {
        reads("town3;pulls1 2;build1 2;string1 2;years9;", 5);
        reads("   town   3   ;   pulls   1   2   ;   build   1   2   ;  ", 3);
        reads("town 3 ; years 9 ; ", 2);
        reads(times(100, " ") + "town" + times(40, " ") + "3;" + times(4, " "), 1);
        // two numbers without one between them are one number, or a run of three
        fault("town 3;build ", "12;");
        fault("town 3;build ", "121;");
        fault("town 3;build 01", ";");
        Due.is("one number of two figures", reads("town 3;pulls 12;", 2).pull(0, 0), 3);
        Due.is("two numbers", reads("town 3;pulls 1 2;", 2).pull(1, 0), -7);
        // two words without one between them are one word
        fault("", "townpulls 1;");
        fault("town 3;", "buildbuild 1 1;");
        // a word may follow a number, and ; anything, without one
        fault("town 3;years 1", "years 1;");
        fault("town3", "town");
        fault("", "to wn 3;");
        fault("town 3;years 1 ", "2;");
    }

    /** "; where there is none". */
    private static void stops() {
        fault("", ";");
        fault("  ", ";");
        fault("town", ";");
        fault("town 3;", ";");
        fault("town 3; ", "; ");
        fault("town 3;pulls", ";");
        fault("town 3;build", ";");
        fault("town 3;build 1", ";");
        fault("town 3;string", ";");
        fault("town 3;string 1", ";");
        fault("town 3;years", ";");
        fault("town 3;years 1;", ";");
        fault("town 3;pulls 1;", ";");
        fault("town 3;build 1 1;", ";");
    }

    /** "a number not as told": where a word or none is due, too. */
    private static void numbersNotAsTold() {
        fault("town 3;", "3;");
        fault("town 3;", "0");
        fault("town 3;build 1 1;", "1 1;");
        fault("town ", "6");
        fault("town 3;build ", "6");
        fault("town 3;build 0 ", "6");
        fault("town 3;string ", "6");
        fault("town 3;string 5 ", "6");
        fault("town 3;years ", "0");
        fault("town 3;pulls ", "19");
    }

    /** "a byte that begins none": each of 0 .. 127 that is no letter, figure, ; or blank, wherever it stands. */
    private static void bytes() {
        String[] ahead = {"", "town", "town ", "town 3", "town 3;", "town 3;pulls 1", "town 3;pulls ", "town 3;build",
            "town 3;build 1", "town 3;string 1 2", "town 3;years", "town 3;years 9 ", "town 3;years 9;"};
        for (int c = 0; c <= 127; c++) {
            boolean begins = c >= 'a' && c <= 'z' || c >= '0' && c <= '9' || c == ';' || c == ' ';
            for (String before : ahead) {
                if (!begins) {
                    fault(before, (char) c + "");
                    fault(before, (char) c + " 1;");
                }
            }
        }
        for (char c = 'a'; c <= 'z'; c++) {
            fault("town 3;", c + " 1;");
        }
        for (char c = '0'; c <= '5'; c++) {
            reads("town " + c + ";", 1);
        }
        for (char c = '6'; c <= '9'; c++) {
            fault("town ", c + ";");
            reads("town 1;pulls " + c + ";", 2);
        }
    }

    /** "also a PLOT (at its number) that has 5 STOREYS": as it stands there, of each plot, by each word. */
    private static void fullPlots() {
        for (int p = 0; p <= 5; p++) {
            String build = "build " + p + " 2;";
            String string = "string " + p + " 2;";
            String four = "town 2;" + times(2, build) + times(2, string);
            reads(four + build, 6);
            reads(four + string, 6);
            for (String word : new String[] {"build ", "string "}) {
                fault(four + build + word, p + " 2;");
                fault(four + string + word, p + "");
                fault(four + string + word, p + ";");
                fault(four + string + word, p + " 9;");
                fault(four + string + word, "0" + p + " 0;");
                reads(four + build + word + (p + 1) % 6 + " 2;", 7);
            }
        }
        // where all have fallen there is room
        reads("town 0;" + times(4, "build 1 3;"), 5);
        LevelGone fallen = reads("town 0;" + times(5, "build 1 3;") + times(4, "build 1 3;"), 10);
        Due.is("four SHEDS again", fallen.plot(1, 0), 4);
        // what the town that is read into had built counts for nothing
        LevelGone x = Towns.full();
        Towns.typeIn(x, "town 0;" + times(5, "build 0 0;"));
        Due.is("on a town that is full", x.read(), 6);
        Due.is("storeys", x.count(0), 5);
    }

    /** The first of two FAULTS is told, whatever is behind it. */
    private static void firstFault() {
        fault("town ", "6;town 0;");
        fault("", "x;town 0;");
        fault("town 0;years ", "0;;;");
        fault("town 0;build ", "6 6;");
        fault("town 0;build 0 ", "6 6;");
        fault("town 0;", "bild ...");
        fault("town 0;pulls 1 2 3 ", ". . .");
        fault(times(149, " "), ";");
        fault("town 0;" + times(142, " "), "0");
    }

    /** "A TOWN that is read takes the place of all but IMAGES, THE TEXT, THE FRACTION, STATUS". */
    private static void takesThePlace() {
        LevelGone x = Towns.full();
        x.now(-1);
        x.from(0);
        x.type(0);
        long above = x.part(0);
        long below = x.part(1);
        Due.is("read()", x.read(), 3);
        Due.is("KIND", x.now(0), 1);
        Due.is("OFF", x.now(1), 2);
        Due.is("YEAR", x.now(2), 3);
        Due.is("STOREYS", x.count(0), 1);
        Due.is("MEMBERS none", x.count(2), 0);
        Due.is("no power", x.power(0), -2);
        Due.is("NOTES none", x.count(3), 0);
        Due.is("is()", x.is(), 63);
        Due.is("MARKS none", x.count(4), 0);
        Due.is("kinds(0)", x.kinds(0), 63);
        Due.is("nothing to undo", x.count(5), 0);
        Due.is("undo()", x.undo(), -3);
        for (int y = 0; y < 6; y++) {
            Due.is("PULL " + y, x.pull(y, 0), 0);
        }
        Due.is("THE TEXT", x.count(6), 150);
        Due.is("THE FRACTION, above", x.part(0), above);
        Due.is("below", x.part(1), below);
        Due.is("BAD: now, power", x.status(0), 2);
        Due.is("NO: from, undo", x.status(1), 2);
        Due.is("FULL: type", x.status(2), 1);
        Due.is("the IMAGE", x.from(1), 1);
        Due.is("its STOREYS", x.count(0), 30);
        Due.is("its MEMBERS", x.count(2), 5);
        Due.is("what may be undone", x.count(5), 8);
        Due.is("the other none", x.from(0), -3);
    }

    public static void main(String[] args) {
        endsTooEarly();
        endedByStops();
        townOnceAndFirst();
        wordsThatAreNone();
        howManyPulls();
        pullsAsTold();
        plotsAndKinds();
        yearsAsTold();
        figures();
        blanks();
        stops();
        numbersNotAsTold();
        bytes();
        fullPlots();
        firstFault();
        takesThePlace();
        Due.end();
    }
}
