/** Promises 23 to 33: what was, what a level and a storey are, the game, chances and seeds. */
public final class WasTest {
    private static final int PERIOD = 1 | 1 << 6 | 1 << 12 | 1 << 18 | 1 << 24;

    private static void built() {
        LevelGone x = Towns.of(1, 3, 3, 3, -4, -4, 0);
        x.year(5);
        // LOVING, from 0: 2, 3, 3, 1, -1, 0, and so on again
        Due.is("LOVING, 0", x.built(3, 0), PERIOD);
        Due.is("LOVING, 2", x.built(3, 2), PERIOD << 1);
        Due.is("LOVING, 3", x.built(3, 3), PERIOD << 2 | PERIOD << 3);
        Due.is("LOVING, 1", x.built(3, 1), PERIOD << 4);
        Due.is("LOVING, -1", x.built(3, -1), PERIOD << 5);
        Due.is("LOVING, 9", x.built(3, 9), 0);
        Due.is("PLAIN, 0", x.built(0, 0), (1 << 30) - 1);
        Due.is("DRIFTING, 0", x.built(1, 0), 1);
        Due.is("DRIFTING, 9", x.built(1, 9), (1 << 30) - (1 << 17));
        Due.is("STUCK, 2", x.built(5, 2), 1 << 3 | 1 << 4);
        Due.is("STUCK, 3", x.built(5, 3), (1 << 30) - (1 << 5));
        Due.is("built(-1, 0)", x.built(-1, 0), -2);
        Due.is("built(6, 0)", x.built(6, 0), -2);
        Due.is("built(0, -10)", x.built(0, -10), -2);
        Due.is("built(0, 10)", x.built(0, 10), -2);
        Due.is("nothing is changed", x.now(2), 5);
    }

    private static void fittingLevels(int b, int p, int y, int a, int kinds) {
        LevelGone x = Towns.of(2, 1, 1);
        Due.is("note(" + b + ", " + p + ", " + y + ", " + a + ")", x.note(b, p, y, a), 1);
        Due.is("is() by (" + b + ", " + p + ", " + y + ", " + a + ")", x.is(), kinds);
    }

    private static void levels() {
        fittingLevels(0, 0, 0, 0, 1 | 4 | 8);
        fittingLevels(0, 0, 0, 1, 2 | 32);
        fittingLevels(0, 0, 0, -1, 16);
        fittingLevels(0, 0, 0, 9, 0);
        fittingLevels(0, 0, 1, 1, 16);
        fittingLevels(0, 0, 1, 0, 47);
        fittingLevels(0, 0, 99, 0, 47);
        fittingLevels(9, 9, 0, 9, 15);
        fittingLevels(9, 9, 1, 9, 31);
        fittingLevels(9, 0, 99, 3, 32);
        fittingLevels(-9, -9, 0, -9, 29);
        fittingLevels(-9, -9, 1, -9, 15);
        fittingLevels(-9, 0, 99, -3, 32);
        fittingLevels(3, 0, 0, 3, 1 | 32);
        fittingLevels(3, 0, 0, 4, 2);
        fittingLevels(3, 0, 0, 2, 4);
        fittingLevels(3, 0, 0, 1, 8);
        fittingLevels(3, 0, 0, 0, 16);
        fittingLevels(2, 0, 0, 3, 2 | 32);
        fittingLevels(5, 6, 1, 6, 4 | 8);
        fittingLevels(5, 6, 1, 7, 16);
        fittingLevels(5, 7, 1, 7, 8);
        fittingLevels(5, 7, 1, 8, 16);
        fittingLevels(-5, -4, 2, -4, 2 | 4 | 8);
        fittingLevels(-5, -9, 2, -8, 16);
    }

    private static void notes() {
        LevelGone x = new LevelGone();
        Due.is("is() of no NOTES", x.is(), 63);
        int[][] wrong = {{-10, 0, 0, 0}, {10, 0, 0, 0}, {0, -10, 0, 0}, {0, 10, 0, 0}, {0, 0, -1, 0}, {0, 0, 100, 0},
            {0, 0, 0, -10}, {0, 0, 0, 10}};
        for (int[] w : wrong) {
            Due.is("a NOTE not as told", x.note(w[0], w[1], w[2], w[3]), -2);
        }
        Due.is("two NOTES: the first", x.note(3, 0, 0, 3), 1);
        Due.is("the second", x.note(0, 0, 0, 0), 2);
        Due.is("PLAIN alone", x.is(), 1);
        Due.is("at the edges", x.note(-9, -9, 0, -9), 3);
        Due.is("at the other edges", x.note(9, 9, 99, 9), 4);
        Due.is("PLAIN still", x.is(), 1);
        Due.is("a fifth", x.note(0, 0, 0, 1), 5);
        Due.is("no KIND", x.is(), 0);
        Due.is("a sixth", x.note(0, 0, 0, 1), 6);
        Due.is("a seventh", x.note(0, 0, 0, 1), -4);
        Due.is("a seventh not as told", x.note(0, 0, 100, 1), -2);
        Due.is("count", x.count(3), 6);
        Due.is("forget(1)", x.forget(1), 0);
        Due.is("forget(0)", x.forget(0), 6);
        Due.is("forget(0) again", x.forget(0), 0);
        Due.is("is() then", x.is(), 63);
        Due.is("forget(-1)", x.forget(-1), -2);
        Due.is("forget(2)", x.forget(2), -2);
    }

    private static void watching(int off, int b, int p, int y, int a, int want) {
        LevelGone x = Towns.of(3);
        Towns.turnTo(x, off);
        x.note(b, p, y, a);
        Due.is("watch() off by " + off + " of KINDS " + x.is(), x.watch(), want);
    }

    private static void watch() {
        Due.is("watch() of all", new LevelGone().watch(), 0);
        watching(0, 0, 0, 0, 9, -1);
        // PULLED and LOVING are alike but where the PULL is 2 away: -7
        watching(-9, 5, 6, 1, 6, 2);
        watching(-7, 5, 6, 1, 6, 0);
        watching(-8, 5, 6, 1, 6, 3);
        // all but STUCK: two alike at most only in an odd year, with PULL -8
        watching(-9, 9, 9, 1, 9, 101);
        // PLAIN and STUCK: at 3 alike in even years, and in odd ones
        watching(3, 3, 0, 0, 3, 0);
        watching(4, 3, 0, 0, 3, 0);
        // DRIFTING and STUCK: alike below 3
        watching(2, 2, 0, 0, 3, 0);
        // PLAIN and STUCK off by 0: unlike in even years
        watching(0, 3, 0, 0, 3, 0);
        // one KIND alone: alike to itself always
        watching(0, 3, 0, 0, 4, 0);
        // PLAIN, PULLED, LOVING off by 9: unlike with PULL -9
        watching(9, 0, 0, 0, 0, 0);
        // the same off by -9: with PULL -7
        watching(-9, 0, 0, 0, 0, 2);
    }

    private static void fittingStoreys(int a, int u, int load, int stood, int kinds) {
        LevelGone x = new LevelGone();
        Due.is("mark(4, " + a + ", " + u + ", " + load + ", " + stood + ")", x.mark(4, a, u, load, stood), 1);
        Due.is("kinds(4) by (" + a + ", " + u + ", " + load + ", " + stood + ")", x.kinds(4), kinds);
        Due.is("kinds(3), of which there is no MARK", x.kinds(3), 63);
    }

    private static void storeys() {
        int[][] unlike = {{0, 0, 63}, {1, 0, 63}, {2, 0, 43}, {3, 0, 40}, {0, 3, 40}, {-1, 1, 43}, {1, -1, 43},
            {-1, -2, 63}, {-2, 1, 40}, {6, 5, 63}, {7, 6, 31}, {-6, -6, 63}, {-7, -7, 31}, {9, -9, 8}, {-9, 9, 8},
            {6, 0, 40}, {7, 0, 8}};
        for (int[] m : unlike) {
            fittingStoreys(m[0], m[1], 0, 1, m[2]);
            fittingStoreys(m[0], m[1], 0, 0, 63 - m[2]);
        }
        int[][] loads = {{3, 63}, {4, 23}, {5, 23}, {6, 7}, {8, 7}, {9, 5}, {30, 5}};
        for (int[] m : loads) {
            fittingStoreys(0, 0, m[0], 1, m[1]);
            fittingStoreys(0, 0, m[0], 0, 63 - m[1]);
        }
        fittingStoreys(2, 0, 9, 1, 1);
        fittingStoreys(2, 0, 8, 1, 3);
        fittingStoreys(9, 0, 4, 1, 0);
    }

    private static void marks() {
        LevelGone x = new LevelGone();
        int[][] wrong = {{-1, 0, 0, 0, 0}, {10, 0, 0, 0, 0}, {0, -10, 0, 0, 0}, {0, 10, 0, 0, 0}, {0, 0, -10, 0, 0},
            {0, 0, 10, 0, 0}, {0, 0, 0, -1, 0}, {0, 0, 0, 31, 0}, {0, 0, 0, 0, -1}, {0, 0, 0, 0, 2}};
        for (int[] w : wrong) {
            Due.is("a MARK not as told", x.mark(w[0], w[1], w[2], w[3], w[4]), -2);
        }
        Due.is("one", x.mark(0, 0, 0, 6, 1), 1);
        Due.is("of another name", x.mark(9, 9, -9, 0, 1), 2);
        Due.is("one more", x.mark(0, 2, 0, 0, 0), 3);
        Due.is("PLAIN, BRICK, CHURCH, but those that stand off by 2", x.kinds(0), 4);
        Due.is("SHED", x.kinds(9), 8);
        Due.is("any", x.kinds(1), 63);
        Due.is("kinds(-1)", x.kinds(-1), -2);
        Due.is("kinds(10)", x.kinds(10), -2);
        x.mark(9, 0, 0, 30, 1);
        Due.is("none", x.kinds(9), 0);
        x.mark(5, -9, -9, 30, 0);
        Due.is("a sixth", x.mark(5, 9, 9, 0, 1), 6);
        Due.is("a seventh", x.mark(5, 9, 9, 0, 1), -4);
        Due.is("a seventh not as told", x.mark(5, 9, 9, 0, 2), -2);
        Due.is("count", x.count(4), 6);
        Due.is("forget(0)", x.forget(0), 0);
        Due.is("forget(1)", x.forget(1), 6);
        Due.is("kinds(9) then", x.kinds(9), 63);
        Due.is("forget(1) again", x.forget(1), 0);
    }

    private static void trying(int a, int u, int load, int kinds, int want) {
        LevelGone x = new LevelGone();
        x.mark(2, a, u, load, 1);
        Due.is("kinds(2)", x.kinds(2), kinds);
        Due.is("tries(2) of KINDS " + kinds, x.tries(2), want);
        Due.is("tries(1) of all", x.tries(1), 6);
    }

    private static void tries() {
        // SHED and HUT: off by 7
        trying(3, 0, 0, 40, 700);
        // PLAIN, BRICK, CHURCH, TOWER: LOAD 9, two and two
        trying(0, 0, 4, 23, 9);
        // PLAIN, BRICK, CHURCH: LOAD 9, one and two
        trying(0, 0, 6, 7, 9);
        // PLAIN, CHURCH: off by 2
        trying(0, 0, 9, 5, 200);
        // PLAIN, BRICK, SHED, HUT: LOAD 4
        trying(2, 0, 0, 43, 4);
        // SHED alone: any
        trying(9, 0, 0, 8, 0);
        // none
        trying(9, 0, 4, 0, -1);
        LevelGone x = new LevelGone();
        Due.is("tries(-1)", x.tries(-1), -2);
        Due.is("tries(10)", x.tries(10), -2);
        Due.is("two are BAD", x.status(0), 2);
    }

    private static void game() {
        Due.is("PLAIN: neither", Towns.of(0, 9).game(), 1);
        Due.is("PULLED from 0: to come gets as much", Towns.of(2, 9).game(), 3);
        Due.is("PULLED from 0, below", Towns.of(2, -1).game(), 3);
        Due.is("PULLED from 0 by 0", Towns.of(2, 0).game(), 1);
        Due.is("LOVING from 0: comes", Towns.of(3, 9).game(), 2);
        Due.is("LOVING from 0, below", Towns.of(3, -9).game(), 2);
        Due.is("LOVING from 0 by 1", Towns.of(3, 1).game(), 3);
        LevelGone x = Towns.of(4, 1, 9);
        x.year(1);
        Due.is("off by 0", x.now(1), 0);
        // off by 3 if it comes: to hold gets more; off by 1 if not: to hold gets less
        Due.is("TREMBLING: none rests", x.game(), 0);
        LevelGone y = Towns.of(4, 1, -9);
        y.year(1);
        // off by -1 if it comes, by 1 if not
        Due.is("TREMBLING: neither", y.game(), 1);
        Due.is("nothing is changed", y.now(2), 1);
    }

    private static void chances(LevelGone x, int off, int m, int c, long above, long below) {
        String call = "chance(" + off + ", " + m + ", " + c + ")";
        Due.is(call, x.chance(off, m, c), 1);
        Due.is(call + ", above", x.part(0), above);
        Due.is(call + ", below", x.part(1), below);
    }

    private static void chance() {
        LevelGone x = Towns.of(2, 9, 9, 9, 9, 9, 9);
        chances(x, 1, 0, 5, 0, 1);
        chances(x, 1, 1, 3, 7, 10);
        chances(x, 1, 1, 0, 1, 1);
        chances(x, 1, 1, 10, 0, 1);
        chances(x, 1, 1, 5, 1, 2);
        chances(x, 2, 2, 3, 49, 100);
        chances(x, 1, 2, 3, 7, 10);
        chances(x, 8, 8, 5, 1, 256);
        chances(x, 8, 8, 7, 6561, 100000000);
        chances(x, 8, 8, 0, 1, 1);
        chances(x, 9, 8, 0, 0, 1);
        LevelGone below = Towns.of(2, -9, -9, -9, 9, 9, 9);
        chances(below, 1, 1, 3, 7, 10);
        below.year(3);
        chances(below, 3, 0, 3, 1, 1);
        chances(below, 4, 0, 3, 0, 1);
        // from -3 to -2 either way
        chances(below, 2, 1, 3, 1, 1);
        chances(below, 3, 1, 3, 0, 1);
        LevelGone most = Towns.drifted(17);
        chances(most, 9, 0, 5, 1, 1);
        chances(most, 9, 1, 5, 1, 1);
        chances(most, 9, 8, 10, 1, 1);
        LevelGone least = Towns.of(3);
        Towns.turnTo(least, -9);
        chances(least, 9, 0, 5, 1, 1);
        chances(least, 9, 1, 5, 1, 2);
        chances(least, 7, 1, 5, 1, 1);
        // TREMBLING: by 1 less in year 0 with no pull; by 8 less with
        LevelGone trembling = Towns.of(4, -9);
        chances(trembling, 3, 1, 4, 3, 5);
        chances(trembling, 1, 1, 4, 1, 1);
        int[][] wrong = {{0, 0, 0}, {10, 0, 0}, {1, -1, 0}, {1, 9, 0}, {1, 0, -1}, {1, 0, 11}};
        for (int[] w : wrong) {
            Due.is("a chance not as told", trembling.chance(w[0], w[1], w[2]), -2);
        }
        Due.is("THE FRACTION stays", trembling.part(0), 1);
    }

    private static void times() {
        // X from 0: 12345, 1406932606, 654583775, 1449466924, 229283573: PULLS -9, 8, 4, -8, -7
        int[] pulled = {0, 1, 1, 2, 2, 3};
        int[] loving = {0, 2, 2, 4, 4, 6};
        LevelGone x = Towns.of(2, 5, 5, 5, 5, 5, 5);
        LevelGone y = Towns.of(3, 5, 5, 5, 5, 5, 5);
        for (int n = 0; n <= 5; n++) {
            Due.is("PULLED: times(0, " + n + ")", x.times(0, n), pulled[n]);
            Due.is("LOVING: times(0, " + n + ")", y.times(0, n), loving[n]);
        }
        LevelGone drifted = Towns.drifted(3);
        Due.is("DRIFTING from year 3: times(5, 2)", drifted.times(5, 2), 2 + 3);
        Due.is("times(999999, 60) of PLAIN", new LevelGone().times(999999, 60), 0);
        Due.is("times(-1, 0)", x.times(-1, 0), -2);
        Due.is("times(1000000, 0)", x.times(1000000, 0), -2);
        Due.is("times(0, -1)", x.times(0, -1), -2);
        Due.is("times(0, 61)", x.times(0, 61), -2);
        Due.is("nothing is changed", x.now(2), 0);
    }

    public static void main(String[] args) {
        built();
        levels();
        notes();
        watch();
        storeys();
        marks();
        tries();
        game();
        chance();
        times();
        Due.end();
    }
}
