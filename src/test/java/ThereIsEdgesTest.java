import java.util.function.Supplier;

/** Promises 1 and 34 to 39 at their bounds, what STATUS counts, and what asking leaves as it is. */
public final class ThereIsEdgesTest {
    /** "THE FRACTION is 0 by 1 at first; lowest terms, below above 0". */
    private static void fraction() {
        LevelGone x = new LevelGone();
        Due.is("above at first", x.part(0), 0);
        Due.is("below at first", x.part(1), 1);
        x.chance(1, 8, 5);
        Due.is("0 of 100000000: above", x.part(0), 0);
        Due.is("below", x.part(1), 1);
        LevelGone sure = Towns.drifted(17);
        sure.chance(9, 8, 5);
        Due.is("all of them: above", sure.part(0), 1);
        Due.is("below", sure.part(1), 1);
        LevelGone part = Towns.of(2, 9);
        for (int c = 0; c <= 10; c++) {
            part.chance(1, 1, c);
            long above = part.part(0);
            long below = part.part(1);
            Due.that("below is above 0", below > 0);
            Due.is("as much as " + (10 - c) + " of 10", above * 10, (10 - c) * below);
            for (int divisor = 2; divisor <= 10; divisor++) {
                Due.that("lowest terms", above % divisor != 0 || below % divisor != 0);
            }
        }
        part.chance(1, 1, 4);
        part.chance(0, 1, 4);
        part.chance(1, 9, 4);
        part.chance(1, 1, 11);
        part.town(3);
        part.member(1);
        part.image(0);
        part.from(0);
        Due.is("it stays: above", part.part(0), 3);
        Due.is("below", part.part(1), 5);
    }

    /** Promise 1: "As told; nothing is built"; and promise 2: "all else as at first". */
    private static void atFirst() {
        LevelGone x = new LevelGone();
        LevelGone y = Towns.full();
        y.town(0);
        y.clear();
        y.chance(1, 0, 0);
        for (LevelGone town : new LevelGone[] {x, y}) {
            for (int what = 0; what <= 3; what++) {
                Due.is("now(" + what + ")", town.now(what), 0);
            }
            for (int what = 0; what <= 6; what++) {
                Due.is("count(" + what + ")", town.count(what), 0);
            }
            for (int p = 0; p < 6; p++) {
                for (int what = 0; what <= 2; what++) {
                    Due.is("plot(" + p + ", " + what + ")", town.plot(p, what), 0);
                    Due.is("of(" + p + ", 0, " + what + ")", town.of(p, 0, what), -100);
                }
                Due.is("rolls(" + p + ")", town.rolls(p), p);
            }
            Due.is("undo()", town.undo(), -3);
            Due.is("is()", town.is(), 63);
            Due.is("council(0)", town.council(0), 0);
            Due.is("council(1)", town.council(1), 0);
            Due.is("council(2)", town.council(2), 0);
            Due.is("from(0)", town.from(0), -3);
        }
        Due.is("digests", x.digest(), y.digest());
        for (int kind = 0; kind <= 5; kind++) {
            LevelGone full = Towns.full();
            Due.is("town(" + kind + "): how many STOREYS there were", full.town(kind), 30);
            Due.is("KIND", full.now(0), kind);
            Due.is("none now", full.town(kind), 0);
            Due.is("THE TEXT stays", full.count(6), 150);
            Due.is("the IMAGE stays", full.from(1), 1);
        }
    }

    /** "each answer told so below is such a one"; "-1: another what (counts as BAD)". */
    private static void status() {
        LevelGone x = new LevelGone();
        for (int what = 0; what <= 2; what++) {
            Due.is("at first", x.status(what), 0);
        }
        for (int n = 1; n <= 20; n++) {
            Due.is("another what", x.status(n % 2 == 0 ? 3 : -1), -1);
            Due.is("counts as BAD", x.status(0), n);
        }
        for (int n = 1; n <= 20; n++) {
            x.undo();
            Due.is("NO", x.status(1), n);
        }
        for (int i = 0; i < 5; i++) {
            x.member(0);
        }
        for (int n = 1; n <= 20; n++) {
            x.member(0);
            Due.is("FULL", x.status(2), n);
        }
        Due.is("BAD still", x.status(0), 20);
        Due.is("NO still", x.status(1), 20);
        x.town(0);
        Towns.read(x, "town 0;");
        x.image(0);
        x.from(0);
        x.clear();
        Due.is("nothing takes BAD back", x.status(0), 20);
        Due.is("nor NO", x.status(1), 20);
        Due.is("nor FULL", x.status(2), 20);
    }

    private static void changesNothing(String name, Seen.Call call) {
        Supplier<LevelGone> fresh = LevelGone::new;
        for (Supplier<LevelGone> made : java.util.List.of(fresh, Towns::rich, Towns::full)) {
            Seen.asked(name, made, call, call.on(made.get()));
        }
    }

    /** "(Nothing is changed by these ..)"; what is not refused counts nowhere in STATUS, NONE and -5 neither. */
    private static void asking() {
        changesNothing("now", x -> x.now(0) + x.now(1) + x.now(2) + x.now(3));
        changesNothing("plot", x -> x.plot(0, 0) + x.plot(5, 1) + x.plot(2, 2));
        changesNothing("then", x -> x.then(0) + x.then(99));
        changesNothing("when", x -> x.when(1) + 100 * x.when(9));
        changesNothing("fits", x -> x.fits(0, 0, 0) + 10 * x.fits(5, 5, 1));
        changesNothing("rolls", x -> x.rolls(0) + x.rolls(5));
        changesNothing("lies", x -> x.lies(0) + x.lies(1));
        changesNothing("pass", x -> x.pass(0, 5) + x.pass(5, 0));
        changesNothing("order", x -> x.order(1, -1) + x.order(6543, 3) + x.order(11, 2));
        changesNothing("council", x -> x.council(0) + x.council(1) + x.council(2));
        changesNothing("built", x -> x.built(0, -9) + x.built(5, 9));
        changesNothing("is", LevelGone::is);
        changesNothing("watch", LevelGone::watch);
        changesNothing("kinds", x -> x.kinds(0) + x.kinds(9));
        changesNothing("tries", x -> x.tries(0) + x.tries(9));
        changesNothing("game", LevelGone::game);
        changesNothing("times", x -> x.times(0, 0) + x.times(999999, 60));
        changesNothing("part", x -> x.part(0) + x.part(1));
        changesNothing("status", x -> x.status(0) + x.status(1) + x.status(2));
        changesNothing("count", x -> x.count(0) + x.count(6));
        changesNothing("digest", LevelGone::digest);
        Seen.asked("power", Towns::rich, x -> x.power(0) + x.power(1) + x.power(2), Towns.rich().power(0)
                + Towns.rich().power(1) + Towns.rich().power(2));
        Seen.asked("of", Towns::rich, x -> x.of(0, 0, 0) + x.of(5, 2, 2), 2);
    }

    /** What a call that is not refused changes counts nowhere in STATUS. */
    private static void doing() {
        LevelGone x = Towns.rich();
        int[] before = Seen.statuses(x);
        x.type('x');
        x.clear();
        x.read();
        x.image(0);
        x.note(0, 0, 0, 0);
        x.mark(0, 0, 0, 0, 0);
        x.forget(0);
        x.forget(1);
        x.chance(1, 8, 10);
        x.member(1);
        x.pull(0, 9);
        x.build(0, 0, 0);
        x.year(99);
        x.undo();
        x.from(0);
        x.from(1);
        x.town(5);
        Towns.read(x, "town 5;");
        Towns.read(x, "town 6;");
        Seen.counted("all calls", x, before, Seen.NONE);
    }

    /** Promise 38: each count from none to as many as there may be. */
    private static void counts() {
        LevelGone none = new LevelGone();
        LevelGone full = Towns.full();
        int[] most = {30, 99, 5, 6, 6, 8, 150};
        for (int what = 0; what <= 6; what++) {
            Due.is("count(" + what + ") of none", none.count(what), 0);
            Due.is("count(" + what + ") of a full town", full.count(what), most[what]);
        }
        Seen.refused("count(-1)", Towns::full, x -> x.count(-1), -2, Seen.BAD);
        Seen.refused("count(7)", Towns::full, x -> x.count(7), -2, Seen.BAD);
    }

    private static void digests(LevelGone x, long... values) {
        long h = 1489;
        for (long v : values) {
            h = 31 * h + v;
        }
        Due.is("digest()", x.digest(), h);
    }

    /** Promise 39: of nothing, and with one of each; what is forgotten or undone is not in it. */
    private static void digest() {
        LevelGone x = new LevelGone();
        digests(x, 0, 0, 0, 0, 0, 0, 0, 0, 0, 0, 0, 0, 0, 0, 0, 0, 0, 0, 0, 0, 0, 0, 1);
        x.town(2);
        x.pull(0, -1);
        x.pull(5, 9);
        x.member(-9);
        x.note(-1, 2, 3, -4);
        x.mark(9, -8, 7, 30, 1);
        x.type(127);
        x.year(1);
        x.build(0, 4, 0);
        x.build(0, 3, 1);
        x.build(5, 5, 0);
        x.chance(1, 0, 0);
        digests(x, 3, 1, 1, 1, 1, 4, 1, 2, -1, -1, 0, 0, 0, 0, 9, 2, 4, -1, 3, 0, 0, 0, 0, 0, 1, 5, -1,
                -9, -1, 2, 3, -4, 9, -8, 7, 30, 1, 1, 1);
        x.undo();
        x.undo();
        x.forget(0);
        x.forget(1);
        x.clear();
        digests(x, 1, 1, 1, 0, 0, 2, 0, 2, -1, -1, 0, 0, 0, 0, 9, 1, 4, -1, 0, 0, 0, 0, 0, -9, 1, 1);
        x.town(0);
        digests(x, 0, 0, 0, 0, 0, 0, 0, 0, 0, 0, 0, 0, 0, 0, 0, 0, 0, 0, 0, 0, 0, 1, 1);
    }

    public static void main(String[] args) {
        fraction();
        atFirst();
        status();
        asking();
        doing();
        counts();
        digest();
        Due.end();
    }
}
