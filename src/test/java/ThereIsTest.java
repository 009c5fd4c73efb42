/** Promises 34 to 39: the fraction, images, statuses, counts and the digest. */
public final class ThereIsTest {
    private static void part() {
        LevelGone x = Towns.of(2, 9);
        Due.is("above at first", x.part(0), 0);
        Due.is("below at first", x.part(1), 1);
        x.chance(1, 1, 4);
        Due.is("above", x.part(0), 3);
        Due.is("below", x.part(1), 5);
        Due.is("part(-1)", x.part(-1), -2);
        Due.is("part(2)", x.part(2), -2);
        x.chance(2, 1, 4);
        Due.is("0 by 1 again: above", x.part(0), 0);
        Due.is("0 by 1 again: below", x.part(1), 1);
    }

    /** A town in which all that images keep is other than at first. */
    private static LevelGone fullTown() {
        LevelGone x = Towns.of(3, 2, -9, 8, 1, 0, -1);
        x.member(-9);
        x.member(4);
        x.note(1, 2, 3, 4);
        x.note(-9, -8, 99, -7);
        x.mark(9, -1, -2, 30, 1);
        x.build(0, 2, 0);
        x.year(1);
        x.build(0, 3, 0);
        x.build(5, 5, 1);
        return x;
    }

    /** All that an image keeps is other than in the full town. */
    private static void otherTown(LevelGone x) {
        x.town(5);
        for (int i = 0; i < 6; i++) {
            x.pull(i, 7);
            x.member(i);
            x.note(5, 5, 5, 5);
            x.mark(5, 5, 5, 5, 0);
        }
        for (int i = 0; i < 4; i++) {
            x.year(9);
            x.build(i, 1, 1);
            x.build(i, 3, 0);
        }
    }

    private static void images() {
        LevelGone x = fullTown();
        x.chance(1, 0, 0);
        Due.is("image(0)", x.image(0), 1);
        long kept = x.digest();
        Due.is("from(1)", x.from(1), -3);
        Due.is("NO", x.status(1), 1);
        x.undo();
        x.undo();
        x.undo();
        Due.is("image(1)", x.image(1), 1);
        otherTown(x);
        x.type('z');
        x.chance(9, 0, 0);
        Due.is("from(0)", x.from(0), 1);
        Due.is("THE TEXT stays", x.clear(), 1);
        Due.is("THE FRACTION stays", x.part(0), 0);
        Due.is("STATUS stays", x.status(1), 1);
        x.chance(1, 0, 0);
        Due.is("all else is as it was", x.digest(), kept);
        Due.is("the LOAD, too", x.of(0, 0, 2), 1);
        Due.is("what may be undone is kept", x.undo(), 1);
        Due.is("storeys", x.count(0), 2);
        Due.is("undo", x.undo(), 1);
        Due.is("undo", x.undo(), 0);
        Due.is("undo", x.undo(), 0);
        Due.is("no more", x.undo(), -3);
        Due.is("from(0) again", x.from(0), 1);
        Due.is("it was not changed by going on", x.digest(), kept);
        Due.is("from(1)", x.from(1), 1);
        Due.is("one may be undone", x.count(5), 1);
        Due.is("one storey", x.count(0), 1);
        Due.is("the other image kept anew", x.image(0), 1);
        x.town(0);
        x.from(0);
        Due.is("goes on from what it is now", x.count(0), 1);
        Due.is("image(-1)", x.image(-1), -2);
        Due.is("image(2)", x.image(2), -2);
        Due.is("from(-1)", x.from(-1), -2);
        Due.is("from(2)", x.from(2), -2);
        Due.is("BAD", x.status(0), 4);
    }

    private static void status() {
        LevelGone x = new LevelGone();
        x.now(4);
        x.order(0, -1);
        x.town(-1);
        Due.is("BAD", x.status(0), 3);
        x.undo();
        x.from(0);
        Due.is("NO", x.status(1), 2);
        for (int i = 0; i < 8; i++) {
            x.member(0);
            x.note(0, 0, 0, 0);
            x.mark(0, 0, 0, 0, 0);
            x.build(0, 0, 0);
        }
        Due.is("FULL", x.status(2), 3 + 2 + 2 + 3);
        Due.is("status(3)", x.status(3), -1);
        Due.is("counts as BAD", x.status(0), 4);
        Due.is("status(-1)", x.status(-1), -1);
        Due.is("counts as BAD", x.status(0), 5);
        Due.is("NO still", x.status(1), 2);
    }

    private static void count() {
        LevelGone x = fullTown();
        x.mark(0, 0, 0, 0, 0);
        x.mark(0, 0, 0, 0, 0);
        x.type('a');
        int[] counts = {3, 1, 2, 2, 3, 4, 1};
        for (int what = 0; what <= 6; what++) {
            Due.is("count(" + what + ")", x.count(what), counts[what]);
        }
        Due.is("count(-1)", x.count(-1), -2);
        Due.is("count(7)", x.count(7), -2);
    }

    private static void digest() {
        LevelGone x = fullTown();
        x.type('a');
        x.chance(1, 2, 3);
        long[] values = {
            3, 1, 2, 2, 1, 4, 1,
            3, 2,
            2, -9, 8, 1, 0, -1,
            2, 2, 0, 3, 2,
            0, 0, 0, 0,
            1, 5, 0,
            -9, 4,
            1, 2, 3, 4, -9, -8, 99, -7,
            9, -1, -2, 30, 1,
            7, 10};
        long h = 1489;
        for (long v : values) {
            h = 31 * h + v;
        }
        Due.is("digest()", x.digest(), h);
        Due.is("digest() again", x.digest(), h);
        x.undo();
        Due.that("another town, another digest", x.digest() != h);
    }

    public static void main(String[] args) {
        part();
        images();
        status();
        count();
        digest();
        Due.end();
    }
}
