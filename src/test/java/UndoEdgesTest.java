/** What may be undone, and what images keep, on both sides of each bound. */
public final class UndoEdgesTest {
    /** A PLAIN town of so many BUILDINGS that may be undone. */
    private static LevelGone built(int n) {
        LevelGone x = new LevelGone();
        for (int i = 0; i < n; i++) {
            x.build(i % 6, 0, 0);
        }
        return x;
    }

    /** "8 at most"; count 5, "that may be undone"; promise 10, "NO: none may be". */
    private static void eightAtMost() {
        for (int n = 0; n <= 12; n++) {
            LevelGone x = built(n);
            int may = Math.min(n, 8);
            Due.is("count(5) behind " + n, x.count(5), may);
            int[] before = Seen.statuses(x);
            for (int i = 1; i <= may; i++) {
                Due.is("undo " + i + " of " + n, x.undo(), 0);
                Due.is("storeys", x.count(0), n - i);
                Due.is("count(5)", x.count(5), may - i);
            }
            Seen.counted("as many as may be", x, before, Seen.NONE);
            Due.is("one more", x.undo(), -3);
            Seen.counted("one more", x, before, Seen.NO);
            Due.is("storeys stay", x.count(0), n - may);
            int made = n;
            Seen.refused("none may be", () -> undone(built(made), may), LevelGone::undo, -3, Seen.NO);
        }
    }

    private static LevelGone undone(LevelGone x, int n) {
        for (int i = 0; i < n; i++) {
            x.undo();
        }
        return x;
    }

    /** YEARS that go by are one together, as many as they are; "UNDO: the YEAR then". */
    private static void yearsTogether() {
        LevelGone x = Towns.of(1);
        int[] years = {1, 99, 2, 98, 1, 50, 99, 1};
        int[] behind = {1, 100, 102, 200, 201, 251, 350, 351};
        for (int i = 0; i < years.length; i++) {
            x.year(years[i]);
            Due.is("YEAR", x.now(2), behind[i]);
            Due.is("count(5)", x.count(5), i + 1);
        }
        for (int i = years.length - 2; i >= 0; i--) {
            Due.is("undo() to " + behind[i], x.undo(), behind[i]);
            Due.is("now(2)", x.now(2), behind[i]);
            Due.is("off", x.now(1), i == 0 ? 1 : 9);
        }
        Due.is("the first", x.undo(), 0);
        Due.is("off", x.now(1), 0);
        Due.is("no ninth", x.undo(), -3);
        for (int i = 0; i < years.length; i++) {
            x.year(years[i]);
        }
        x.year(3);
        undone(x, 7);
        Due.is("a ninth drops the first", x.undo(), 1);
        Due.is("that was it", x.undo(), -3);
    }

    /** "together one that may be undone, also if none goes by; at 9999 none goes by". */
    private static void yearsOfNone() {
        LevelGone x = new LevelGone();
        for (int i = 0; i < 101; i++) {
            x.year(99);
        }
        Due.is("9999", x.now(2), 9999);
        x.pull(0, 0);
        Due.is("none may be undone", x.count(5), 0);
        x.year(99);
        Due.is("none went by, and may be undone", x.count(5), 1);
        Due.is("undo()", x.undo(), 9999);
        Due.is("none is left", x.undo(), -3);
        for (int i = 1; i <= 9; i++) {
            x.year(1);
            Due.is("count(5)", x.count(5), Math.min(i, 8));
        }
    }

    /** "STOREYS as ahead of the last BUILDING": also where all fell, or the new one alone, that may be undone. */
    private static void whatFell() {
        LevelGone x = Towns.drifted(17);
        x.pull(0, 0);
        Due.is("PLAIN off by 9: it falls", x.build(0, 0, 0), 0);
        Due.is("it may be undone", x.count(5), 1);
        Due.is("undo()", x.undo(), 17);
        Due.is("nothing", x.count(0), 0);
        LevelGone sheds = new LevelGone();
        for (int i = 0; i < 5; i++) {
            sheds.build(1, 3, 0);
        }
        Due.is("all fell", sheds.count(0), 0);
        Due.is("five may be undone", sheds.count(5), 5);
        for (int height = 4; height >= 0; height--) {
            sheds.undo();
            Due.is("height", sheds.plot(1, 0), height);
            Due.is("heavy", sheds.plot(1, 2), height);
        }
    }

    /** What was built over what is undone does not show behind it. */
    private static void tiltsAndKinds() {
        LevelGone x = Towns.of(1);
        x.build(0, 2, 0);
        x.year(1);
        x.build(0, 4, 0);
        x.undo();
        x.build(0, 0, 1);
        Due.is("KIND", x.of(0, 1, 0), 0);
        Due.is("TILT", x.of(0, 1, 1), 0);
        x.undo();
        Due.is("not there", x.of(0, 1, 0), -100);
        x.undo();
        Due.is("off", x.now(1), 0);
        Due.is("the first KIND", x.of(0, 0, 0), 2);
        Due.is("YEAR", x.undo(), 0);
        Due.is("not there", x.of(0, 0, 0), -100);
    }

    /** "behind a PULL, MEMBER told none may be": also one told as it is; not behind one that is refused. */
    private static void behindPullAndMember() {
        LevelGone x = built(8);
        x.pull(0, 0);
        Due.is("behind a PULL as it is", x.count(5), 0);
        Due.is("undo()", x.undo(), -3);
        Due.is("storeys stay", x.count(0), 8);
        x.build(0, 0, 0);
        Due.is("one anew", x.count(5), 1);
        x.member(0);
        Due.is("behind a MEMBER", x.count(5), 0);
        Due.is("undo()", x.undo(), -3);
        LevelGone y = Towns.rich();
        Due.is("three", y.count(5), 3);
        y.pull(-1, 0);
        y.pull(6, 0);
        y.pull(0, 10);
        y.pull(0, -10);
        y.member(10);
        y.member(-10);
        Due.is("refused ones leave them", y.count(5), 3);
        LevelGone full = Towns.full();
        Due.is("eight", full.count(5), 8);
        full.member(0);
        full.build(0, 0, 0);
        Due.is("FULL ones leave them", full.count(5), 8);
    }

    /** Calls that are no BUILDING, YEARS, PULL, MEMBER, town or TOWN read leave what may be undone. */
    private static void others() {
        LevelGone x = Towns.rich();
        x.note(0, 0, 0, 0);
        x.mark(0, 0, 0, 0, 0);
        x.forget(0);
        x.forget(1);
        x.type(' ');
        x.image(0);
        x.chance(1, 1, 1);
        x.order(1234, -1);
        x.fits(0, 0, 0);
        x.then(99);
        x.times(1, 60);
        x.build(6, 0, 0);
        x.year(0);
        x.year(100);
        x.type('x');
        Due.is("a FAULT", x.read(), -36);
        x.clear();
        Due.is("three still", x.count(5), 3);
        x.undo();
        Due.is("NOTES stay forgotten", x.count(3), 0);
        Due.is("MARKS stay forgotten", x.count(4), 0);
        Due.is("MEMBERS stay", x.count(2), 3);
        LevelGone town = built(8);
        town.town(6);
        Due.is("a town refused", town.count(5), 8);
        town.town(0);
        Due.is("a town", town.count(5), 0);
        Due.is("undo()", town.undo(), -3);
        LevelGone read = built(8);
        Due.is("read()", Towns.read(read, "town 0;build 0 0;"), 2);
        Due.is("a TOWN read: nothing to undo", read.count(5), 0);
        Due.is("undo()", read.undo(), -3);
    }

    /** "IMAGES 0, 1"; promise 35: kept, as often as one likes; promise 36: "NO: none was kept". */
    private static void images() {
        for (int i = 0; i <= 1; i++) {
            int image = i;
            Seen.refused("from(" + i + ") of none", LevelGone::new, t -> t.from(image), -3, Seen.NO);
            Seen.refused("from(" + i + ") of the other", () -> {
                LevelGone x = Towns.of(3);
                x.image(1 - image);
                return x;
            }, t -> t.from(image), -3, Seen.NO);
            LevelGone x = built(3);
            int[] before = Seen.statuses(x);
            Due.is("image", x.image(i), 1);
            x.build(0, 0, 0);
            Due.is("from", x.from(i), 1);
            Due.is("storeys", x.count(0), 3);
            Due.is("image again", x.image(i), 1);
            Due.is("from again", x.from(i), 1);
            Due.is("from again", x.from(i), 1);
            Seen.counted("images", x, before, Seen.NONE);
        }
    }

    /** "what may be undone they keep": none to eight. */
    private static void undosOfImages() {
        for (int n = 0; n <= 9; n++) {
            LevelGone x = built(n);
            x.image(1);
            undone(x, 8);
            x.town(4);
            x.pull(2, 2);
            Due.is("from", x.from(1), 1);
            Due.is("as many may be undone", x.count(5), Math.min(n, 8));
            x.year(1);
            Due.is("and one more", x.count(5), Math.min(n + 1, 8));
            x.from(1);
            undone(x, Math.min(n, 8));
            Due.is("storeys then", x.count(0), n - Math.min(n, 8));
            Due.is("no more", x.undo(), -3);
        }
    }

    /** "keep all but them, THE TEXT, THE FRACTION and STATUS". */
    private static void whatImagesKeep() {
        LevelGone rich = Towns.rich();
        rich.image(0);
        long kept = rich.digest();
        rich.town(0);
        rich.clear();
        rich.chance(9, 0, 0);
        rich.from(0);
        Due.is("THE TEXT is not kept", rich.count(6), 0);
        Due.is("THE FRACTION is not kept", rich.part(0), 0);
        Due.is("STATUS is not kept", rich.status(0), 1);
        Due.that("the digest tells so", rich.digest() != kept);
        Towns.typeIn(rich, "town 1;years 3;build 2 0;");
        rich.from(0);
        rich.image(1);
        allOther(rich);
        rich.from(0);
        rich.chance(1, 3, 5);
        LevelGone twin = Towns.rich();
        // the fraction of rich was told by THE LEVEL as it still is
        Due.is("all else is", rich.digest(), twin.digest());
        allOther(rich);
        Due.is("kept as it is", rich.from(1), 1);
        Due.is("both images are alike", rich.digest(), twin.digest());
    }

    /** All numbers that an image keeps are other then. */
    private static void allOther(LevelGone x) {
        x.town(1);
        for (int i = 0; i < 6; i++) {
            x.pull(i, 8);
            x.member(-8);
            x.note(8, 8, 8, 8);
            x.mark(8, 8, 8, 8, 0);
        }
        for (int i = 0; i < 12; i++) {
            x.year(1);
            x.build(i % 6, 2, 1);
        }
    }

    /** What is kept is not changed by going on from it, nor by the other. */
    private static void imagesApart() {
        LevelGone x = built(1);
        x.image(0);
        x.build(1, 1, 0);
        x.image(1);
        x.from(0);
        x.member(9);
        x.note(1, 1, 1, 1);
        x.pull(1, 1);
        x.town(5);
        x.from(1);
        Due.is("two storeys", x.count(0), 2);
        Due.is("two may be undone", x.count(5), 2);
        x.from(0);
        Due.is("one storey", x.count(0), 1);
        Due.is("no MEMBERS", x.count(2), 0);
        Due.is("no NOTES", x.count(3), 0);
        Due.is("KIND", x.now(0), 0);
        Due.is("one may be undone", x.count(5), 1);
        Due.is("PULL", x.pull(1, 0), 0);
    }

    public static void main(String[] args) {
        eightAtMost();
        yearsTogether();
        yearsOfNone();
        whatFell();
        tiltsAndKinds();
        behindPullAndMember();
        others();
        images();
        undosOfImages();
        whatImagesKeep();
        imagesApart();
        Due.end();
    }
}
