/** What there are at most so many of: all that go in are taken, the next is not, and there is room again behind. */
public final class HowManyTest {
    /** "up to 5 STOREYS on each"; promise 8, "FULL: 5". */
    private static void storeys() {
        for (int p = 0; p < 6; p++) {
            int plot = p;
            LevelGone x = Towns.rich();
            int[] before = Seen.statuses(x);
            Due.is("a fourth storey on " + p, x.build(p, 5, 1), 4);
            Due.is("a fifth", x.build(p, 3, 1), p == 0 ? 5 : 0);
            Seen.counted("storeys 4 and 5", x, before, Seen.NONE);
            LevelGone y = new LevelGone();
            for (int i = 1; i <= 5; i++) {
                Due.is("storey " + i + " on " + p, y.build(p, 2, 0), i);
            }
            Due.is("a sixth", y.build(p, 2, 0), -4);
            Due.is("beside it there is room", y.build((p + 1) % 6, 2, 0), 1);
            for (int kind = 0; kind < 6; kind++) {
                int built = kind;
                Seen.refused("KIND " + kind + " on full PLOT " + p, Towns::full, t -> t.build(plot, built, 1), -4, Seen.FULL);
                Seen.refused("KIND " + kind + " by THE LEVEL", Towns::full, t -> t.build(plot, built, 0), -4, Seen.FULL);
            }
        }
    }

    /** "then the lowest of the PLOT that does not STAND falls": what fell leaves room. */
    private static void storeysThatFell() {
        LevelGone x = new LevelGone();
        for (int i = 0; i < 4; i++) {
            x.build(3, 3, 0);
        }
        Due.is("a fifth SHED: all fall", x.build(3, 3, 0), 0);
        for (int i = 1; i <= 4; i++) {
            Due.is("SHED " + i + " again", x.build(3, 3, 0), i);
        }
        x.undo();
        Due.is("undone", x.plot(3, 0), 3);
        for (int i = 0; i < 5; i++) {
            x.build(4, 0, 0);
        }
        x.undo();
        Due.is("a fifth anew, behind UNDO", x.build(4, 1, 0), 5);
        Due.is("and no sixth", x.build(4, 1, 0), -4);
    }

    /** "MEMBERS of a council 0 .. 4, as they come"; promise 4, "the number", "FULL: 5". */
    private static void members() {
        LevelGone x = new LevelGone();
        for (int m = 0; m < 5; m++) {
            Due.is("so many MEMBERS", x.count(2), m);
            Due.is("power(" + m + ") of none such", x.power(m), -2);
            Due.is("MEMBER " + m, x.member(m), m);
            Due.that("power(" + m + ")", x.power(m) >= 0);
        }
        Due.is("five", x.count(2), 5);
        Due.is("FULL is not counted yet", x.status(2), 0);
        Due.is("a sixth", x.member(0), -4);
        Due.is("five still", x.count(2), 5);
        Due.is("no sixth's power", x.power(5), -2);
        Seen.refused("a sixth", Towns::full, t -> t.member(-9), -4, Seen.FULL);
        x.town(0);
        Due.is("behind town there is room", x.member(1), 0);
    }

    /** "NOTES 0 .. 5, as they come"; promise 24, "how many there are", "FULL: 6". */
    private static void notes() {
        LevelGone x = new LevelGone();
        for (int i = 1; i <= 6; i++) {
            Due.is("NOTE " + i, x.note(0, 0, 1, 0), i);
            Due.is("count", x.count(3), i);
        }
        Due.is("a seventh", x.note(9, 9, 99, -9), -4);
        Due.is("it is none", x.is(), 47);
        Due.is("six", x.count(3), 6);
        Seen.refused("a seventh", Towns::full, t -> t.note(0, 0, 0, 0), -4, Seen.FULL);
        Due.is("forget(0)", x.forget(0), 6);
        Due.is("behind it there is room", x.note(0, 0, 0, 0), 1);
    }

    /** "MARKS 0 .. 5, as they come"; promise 25, "how many there are", "FULL: 6": of all names together. */
    private static void marks() {
        LevelGone x = new LevelGone();
        for (int i = 1; i <= 6; i++) {
            Due.is("MARK " + i, x.mark(i, 0, 0, 0, 1), i);
            Due.is("count", x.count(4), i);
        }
        Due.is("a seventh", x.mark(0, 9, 0, 0, 1), -4);
        Due.is("it is none", x.kinds(0), 63);
        Due.is("six", x.count(4), 6);
        Seen.refused("a seventh", Towns::full, t -> t.mark(9, 0, 0, 0, 0), -4, Seen.FULL);
        Due.is("forget(1)", x.forget(1), 6);
        Due.is("behind it there is room", x.mark(0, 0, 0, 0, 1), 1);
    }

    /** "a TEXT (150 bytes at most)"; promise 5, "how many it has", "FULL"; promise 6. */
    private static void bytes() {
        LevelGone x = new LevelGone();
        for (int i = 1; i <= 150; i++) {
            Due.is("byte " + i, x.type(i % 128), i);
        }
        Due.is("150 bytes", x.count(6), 150);
        Due.is("FULL is not counted yet", x.status(2), 0);
        Due.is("a 151st", x.type(0), -4);
        Due.is("150 still", x.count(6), 150);
        Seen.refused("byte 0 behind 150", Towns::full, t -> t.type(0), -4, Seen.FULL);
        Seen.refused("byte 127 behind 150", Towns::full, t -> t.type(127), -4, Seen.FULL);
        Due.is("clear()", x.clear(), 150);
        Due.is("none", x.count(6), 0);
        Due.is("clear() of none", x.clear(), 0);
        Due.is("clear() is not refused", x.status(0) + x.status(1), 0);
        Due.is("behind it there is room", x.type(127), 1);
    }

    /** A TEXT that is as long as may be is read to its last byte. */
    private static void bytesRead() {
        LevelGone x = Towns.full();
        Due.is("125 blanks behind three ITEMS", x.read(), 3);
        x.clear();
        Towns.typeIn(x, "town5;");
        for (int i = 0; i < 20; i++) {
            for (int c = 0; c < 7; c++) {
                x.type("pulls8;".charAt(c));
            }
        }
        Due.is("146 bytes", x.count(6), 146);
        Due.is("21 ITEMS", x.read(), 21);
        for (int i = 0; i < 3; i++) {
            x.type(' ');
        }
        x.type(';');
        Due.is("150 bytes", x.count(6), 150);
        Due.is("a FAULT at the last", x.read(), -159);
    }

    /** "The first of: BAD; NO; FULL": a number that is not as told is BAD where it would be FULL, too. */
    private static void badAheadOfFull() {
        Seen.refused("build: PLOT", Towns::full, t -> t.build(6, 0, 0), -2, Seen.BAD);
        Seen.refused("build: KIND", Towns::full, t -> t.build(0, 6, 0), -2, Seen.BAD);
        Seen.refused("build: string", Towns::full, t -> t.build(0, 0, 2), -2, Seen.BAD);
        Seen.refused("member", Towns::full, t -> t.member(10), -2, Seen.BAD);
        Seen.refused("type", Towns::full, t -> t.type(128), -2, Seen.BAD);
        Seen.refused("note", Towns::full, t -> t.note(0, 0, 100, 0), -2, Seen.BAD);
        Seen.refused("mark", Towns::full, t -> t.mark(0, 0, 0, 0, 2), -2, Seen.BAD);
        Seen.refused("from", Towns::full, t -> t.from(2), -2, Seen.BAD);
        Seen.refused("from below", LevelGone::new, t -> t.from(-1), -2, Seen.BAD);
    }

    /** "FULL (where others are told they count as these)": each counts once, none as BAD or NO. */
    private static void fullCounts() {
        LevelGone x = Towns.full();
        int[] before = Seen.statuses(x);
        Due.is("FULL at first", before[2], 0);
        x.build(0, 0, 0);
        x.member(0);
        x.note(0, 0, 0, 0);
        x.mark(0, 0, 0, 0, 0);
        x.type(0);
        Due.is("five were FULL", x.status(2), 5);
        Due.is("BAD", x.status(0), before[0]);
        Due.is("NO", x.status(1), before[1]);
    }

    /** "An object is used for at most 512 calls": the last of them is as the first. */
    private static void calls() {
        LevelGone x = new LevelGone();
        for (int i = 1; i <= 256; i++) {
            Due.is("build, call " + (2 * i - 1), x.build(i % 6, 2, 0), 1);
            Due.is("undo, call " + 2 * i, x.undo(), 0);
        }
        LevelGone y = new LevelGone();
        for (int i = 1; i <= 511; i++) {
            y.year(100);
        }
        Due.is("BAD, call 512", y.status(0), 511);
        LevelGone z = new LevelGone();
        for (int i = 1; i <= 511; i++) {
            z.undo();
        }
        Due.is("NO, call 512", z.status(1), 511);
        LevelGone full = new LevelGone();
        for (int i = 1; i <= 511; i++) {
            full.member(0);
        }
        Due.is("FULL, call 512", full.status(2), 506);
    }

    public static void main(String[] args) {
        storeys();
        storeysThatFell();
        members();
        notes();
        marks();
        bytes();
        bytesRead();
        badAheadOfFull();
        fullCounts();
        calls();
        Due.end();
    }
}
