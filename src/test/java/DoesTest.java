/** Promises 14 to 20: what the level does, what rolls where, and where to build. */
public final class DoesTest {
    private static void then() {
        LevelGone x = Towns.of(3, 3, 3, 3, -4, -4, 0);
        // LOVING: 2, 3, 3, 1, -1, 0, and so on again
        int[] offs = {0, 2, 3, 3, 1, -1, 0};
        for (int m = 0; m <= 6; m++) {
            Due.is("then(" + m + ")", x.then(m), offs[m]);
        }
        Due.is("then(97)", x.then(97), 2);
        Due.is("then(99)", x.then(99), 3);
        x.year(4);
        Due.is("then(1) of year 4", x.then(1), -1);
        Due.is("then(2) of year 4", x.then(2), 0);
        Due.is("then(-1)", x.then(-1), -100);
        Due.is("then(100)", x.then(100), -100);
        Due.is("nothing is changed", x.now(2), 4);
    }

    private static void when() {
        LevelGone x = Towns.of(1);
        int[] years = {1, 3, 5, 7, 9, 11, 13, 15, 17};
        for (int off = 1; off <= 9; off++) {
            Due.is("when(" + off + ")", x.when(off), years[off - 1]);
        }
        x.year(6);
        Due.is("when(3) of year 6: it is", x.when(3), 0);
        Due.is("when(4) of year 6", x.when(4), 1);
        Due.is("when(0)", x.when(0), -2);
        Due.is("when(10)", x.when(10), -2);
        LevelGone below = Towns.of(3, -5, -5, -5, -5, -5, -5);
        Due.is("when(1) below 0", below.when(1), 1);
        Due.is("when(5) below 0", below.when(5), 3);
        Due.is("when(6): none", below.when(6), -1);
        Due.is("none is no status", below.status(1), 0);
        LevelGone stuck = Towns.of(5);
        Due.is("when(3) of STUCK", stuck.when(3), 5);
        Due.is("when(4) of STUCK", stuck.when(4), -1);
    }

    private static void fits() {
        LevelGone x = Towns.drifted(3);
        x.build(0, 0, 1);
        x.build(1, 0, 0);
        for (int i = 0; i < 5; i++) {
            x.build(2, 0, 1);
        }
        long before = x.digest();
        Due.is("CHURCH by the level on 0", x.fits(0, 2, 0), 1);
        Due.is("CHURCH by string on 0", x.fits(0, 2, 1), 2);
        Due.is("CHURCH by the level on 2", x.fits(1, 2, 0), 2);
        Due.is("CHURCH by string on 2", x.fits(1, 2, 1), 1);
        Due.is("PLAIN by string on 2", x.fits(1, 0, 1), 2);
        Due.is("none: it has 5", x.fits(2, 0, 1), -1);
        Due.is("CHURCH on the ground", x.fits(3, 2, 0), 0);
        Due.is("SHED on the ground", x.fits(3, 3, 0), 1);
        Due.is("nothing is changed", x.digest(), before);
        x.build(4, 3, 1);
        Due.is("what falls takes all above it", x.fits(4, 2, 1), 0);
        Due.is("and stands still", x.plot(4, 0), 1);
        Due.is("fits(-1, 0, 0)", x.fits(-1, 0, 0), -2);
        Due.is("fits(6, 0, 0)", x.fits(6, 0, 0), -2);
        Due.is("fits(0, -1, 0)", x.fits(0, -1, 0), -2);
        Due.is("fits(0, 6, 0)", x.fits(0, 6, 0), -2);
        Due.is("fits(0, 0, -1)", x.fits(0, 0, -1), -2);
        Due.is("fits(2, 0, 2)", x.fits(2, 0, 2), -2);
        Due.is("BAD", x.status(0), 6);
        Due.is("FULL", x.status(2), 0);
    }

    private static void rolling(int[] tops, int... where) {
        LevelGone x = Towns.tops(tops);
        for (int p = 0; p < 6; p++) {
            Due.is("rolls(" + p + ") of " + java.util.Arrays.toString(tops), x.rolls(p), where[p]);
        }
    }

    private static void rolls() {
        rolling(new int[] {0, 0, 0, 0, 0, 0}, 0, 1, 2, 3, 4, 5);
        rolling(new int[] {1, 2, 3, 4, 5, 6}, 5, 5, 5, 5, 5, 5);
        rolling(new int[] {-1, -9, -2, -1, -1, -3}, 0, 0, 0, 0, 0, 0);
        rolling(new int[] {1, 1, 0, -1, -1, -1}, 2, 2, 2, 2, 2, 2);
        rolling(new int[] {1, -1, 1, -1, 1, -1}, 1, 0, 3, 2, 5, 4);
        rolling(new int[] {-4, 4, 4, -4, 0, 5}, 0, 3, 3, 2, 4, 5);
        LevelGone x = Towns.tops(1, 1);
        Due.is("to a PLOT of nothing", x.rolls(0), 2);
        Due.is("on a PLOT of nothing", x.rolls(4), 4);
        Due.is("rolls(-1)", x.rolls(-1), -2);
        Due.is("rolls(6)", x.rolls(6), -2);
    }

    private static void lies() {
        LevelGone x = Towns.tops(0, 2, -1, -3, 0, 3);
        Due.is("LEVEL ones", x.lies(0), 1 + 16);
        Due.is("STEPS", x.lies(1), 2 + 8 + 16);
        int[][] passes = {
            {0, 0, 1}, {0, 1, 1}, {1, 0, 1}, {1, 2, 0}, {2, 1, 0}, {2, 3, 1}, {3, 2, 1}, {3, 4, 0}, {4, 5, 0},
            {5, 4, 0}, {5, 5, 1}, {0, 5, 0}, {5, 0, 0}, {0, 2, 0}, {2, 4, 0}, {3, 3, 1}};
        for (int[] pass : passes) {
            Due.is("pass(" + pass[0] + ", " + pass[1] + ")", x.pass(pass[0], pass[1]), pass[2]);
        }
        LevelGone first = Towns.tops(-4, 0);
        Due.is("LEVEL ones but the first", first.lies(0), 62);
        Due.is("the first join is a STEP", first.lies(1), 1);
        Due.is("pass(0, 1) over it", first.pass(0, 1), 0);
        Due.is("pass(5, 0) over it", first.pass(5, 0), 0);
        LevelGone gentle = Towns.tops(0, 2, 4, 6, 8, 9);
        Due.is("no STEPS", gentle.lies(1), 0);
        Due.is("pass(0, 5)", gentle.pass(0, 5), 1);
        Due.is("pass(5, 0)", gentle.pass(5, 0), 1);
        LevelGone end = Towns.tops(9, 9, 9, 9, 9);
        Due.is("a STEP to a PLOT of nothing", end.lies(1), 16);
        Due.is("pass(0, 4)", end.pass(0, 4), 1);
        Due.is("lies(-1)", x.lies(-1), -2);
        Due.is("lies(2)", x.lies(2), -2);
        Due.is("pass(-1, 0)", x.pass(-1, 0), -2);
        Due.is("pass(6, 6)", x.pass(6, 6), -2);
        Due.is("pass(0, -1)", x.pass(0, -1), -2);
        Due.is("pass(0, 6)", x.pass(0, 6), -2);
    }

    private static void ordered(LevelGone x, int kinds, int most, int... plots) {
        long before = x.digest();
        Due.is("order(" + kinds + ", -1)", x.order(kinds, -1), most);
        for (int i = 0; i < plots.length; i++) {
            Due.is("order(" + kinds + ", " + i + ")", x.order(kinds, i), plots[i]);
        }
        Due.is("order(" + kinds + ") beyond", x.order(kinds, plots.length), -5);
        Due.is("order(" + kinds + ") far beyond", x.order(kinds, Integer.MAX_VALUE), -5);
        Due.is("nothing is changed", x.digest(), before);
    }

    private static void order() {
        ordered(new LevelGone(), 1, 1, 0);
        ordered(new LevelGone(), 6, 1, 0);
        ordered(new LevelGone(), 3333, 4, 0, 0, 0, 0);
        ordered(new LevelGone(), 43, 2, 0, 1);
        ordered(new LevelGone(), 4343, 4, 0, 1, 0, 1);
        LevelGone shed = new LevelGone();
        shed.build(0, 3, 0);
        ordered(shed, 4444, 5, 0, 0, 0, 1);
        LevelGone four = new LevelGone();
        for (int i = 0; i < 4; i++) {
            four.build(0, 0, 0);
        }
        ordered(four, 111, 7, 0, 1, 1);
    }

    private static void orderByYears() {
        LevelGone x = Towns.drifted(2);
        x.build(3, 0, 0);
        x.year(1);
        // off by 2: a church stands on plot 3 (tilted by 1) alone
        ordered(x, 3, 2, 3);
        // off by 2, 2, 3: the third stands on what is off by 2
        ordered(x, 113, 4, 0, 0, 0);
        ordered(x, 131, 4, 0, 0, 0);
        // off by 9: all fall but a SHED, and a BRICK on it
        ordered(Towns.drifted(17), 1, 0, 0);
        ordered(Towns.drifted(17), 1632, 0, 0, 0, 0, 0);
        ordered(Towns.drifted(17), 1642, 2, 0, 0, 0, 0);
        ordered(Towns.drifted(17), 1624, 1, 0, 0, 0, 0);
        LevelGone loving = Towns.of(3, 9, 9, 9, 9, 9, 9);
        // off by 0, 2, 4, 6: by churches one stands
        ordered(loving, 3333, 1, 0, 0, 0, 0);
        ordered(loving, 11, 2, 0, 0);
        ordered(loving, 111, 3, 0, 0, 0);
        ordered(loving, 311, 3, 0, 0, 0);
        ordered(loving, 331, 1, 0, 0, 0);
        // all fall, but the one on the SHED off by 9, that bears one BRICK: the last, in the first way
        LevelGone far = Towns.tops(0, 9);
        Towns.turnTo(far, 9);
        ordered(far, 2222, 3, 0, 0, 0, 1);
        ordered(far, 22, 3, 0, 1);
        ordered(far, 4444, 6, 0, 0, 0, 1);
    }

    private static void orderBeyondTheLastYear() {
        LevelGone x = Towns.of(3);
        for (int i = 0; i < 101; i++) {
            x.year(99);
        }
        for (int y = 0; y < 6; y++) {
            x.pull(y, 9);
        }
        Due.is("the year", x.now(2), 9999);
        ordered(x, 33, 1, 0, 0);
    }

    private static void orderOfFullPlots() {
        LevelGone x = new LevelGone();
        for (int i = 0; i < 29; i++) {
            x.build(i / 5, 0, 0);
        }
        ordered(x, 1, 30, 5);
        Due.is("none: the last place is taken", x.order(11, -1), -1);
        Due.is("none, whatever i is", x.order(11, 0), -1);
        Due.is("none, not so many", x.order(11, 2), -1);
        x.build(5, 0, 0);
        Due.is("none at all", x.order(1, -1), -1);
        Due.is("none ahead of not so many", x.order(1, 9), -1);
        Due.is("BAD ahead of none", x.order(1, -2), -10);
        Due.is("BAD ahead of none", x.order(8, -1), -10);
        LevelGone falling = new LevelGone();
        falling.town(3);
        for (int i = 0; i < 29; i++) {
            falling.build(i / 5, 0, 0);
        }
        Towns.turnTo(falling, 9);
        ordered(falling, 1111, 29, 5, 5, 5, 5);
    }

    private static void orderRefused() {
        LevelGone x = new LevelGone();
        int[] wrong = {0, 7, 8, 9, 10, 17, 71, 100, 101, 110, 1000, 1101, 7111, 1117, 10000, 11111, -1, -11,
            Integer.MAX_VALUE, Integer.MIN_VALUE};
        for (int kinds : wrong) {
            Due.is("order(" + kinds + ", -1)", x.order(kinds, -1), -10);
        }
        Due.is("order(1, -2)", x.order(1, -2), -10);
        Due.is("all are BAD", x.status(0), wrong.length + 1);
        Due.is("order(1, 1) is none", x.order(1, 1), -5);
        Due.is("not so many is no status", x.status(0) + x.status(1) + x.status(2), wrong.length + 1);
    }

    public static void main(String[] args) {
        then();
        when();
        fits();
        rolls();
        lies();
        order();
        orderByYears();
        orderBeyondTheLastYear();
        orderOfFullPlots();
        orderRefused();
        Due.end();
    }
}
