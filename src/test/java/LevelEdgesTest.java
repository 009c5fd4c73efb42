/** Kinds of levels at their bounds, the pulls of years, and the years themselves. */
public final class LevelEdgesTest {
    private static final int PLAIN = 0, DRIFTING = 1, PULLED = 2, LOVING = 3, TREMBLING = 4, STUCK = 5;
    private static final int[] EVEN = {0, 2, 50, 98};
    private static final int[] ODD = {1, 3, 51, 99};

    /** How far off a level of a kind, off by b, will be behind year y with pull p: the one NOTE that it fits. */
    private static void behind(int kind, int[] years, int b, int p, int want) {
        for (int y : years) {
            LevelGone x = new LevelGone();
            for (int a = -9; a <= 9; a++) {
                x.note(b, p, y, a);
                String call = "KIND " + kind + " behind year " + y + ", off by " + b + ", pull " + p + ": fits " + a;
                Due.is(call, x.is() >> kind & 1, a == want ? 1 : 0);
                x.forget(0);
            }
        }
    }

    private static void always(int kind, int b, int p, int want) {
        behind(kind, EVEN, b, p, want);
        behind(kind, ODD, b, p, want);
    }

    /** "0 PLAIN: b". */
    private static void plain() {
        for (int b = -9; b <= 9; b++) {
            always(PLAIN, b, -9, b);
            always(PLAIN, b, 9, b);
        }
    }

    /** "1 DRIFTING: 1 more than PLAIN in YEARS of an even number, else as PLAIN", "9 at most". */
    private static void drifting() {
        for (int b = -9; b <= 8; b++) {
            behind(DRIFTING, EVEN, b, -9, b + 1);
        }
        behind(DRIFTING, EVEN, 9, 9, 9);
        for (int b = -9; b <= 9; b++) {
            behind(DRIFTING, ODD, b, 9, b);
        }
    }

    /** "2 PULLED: PLAIN, 1 nearer to p": where it is there it stays. */
    private static void pulled() {
        for (int p = -9; p <= 9; p += 3) {
            always(PULLED, p, p, p);
            for (int b = -9; b < p; b++) {
                always(PULLED, b, p, b + 1);
            }
            for (int b = p + 1; b <= 9; b++) {
                always(PULLED, b, p, b - 1);
            }
        }
    }

    /** "3 LOVING: PULLED of what PULLED tells": 2 nearer, or there, where it is nearer than that. */
    private static void loving() {
        for (int p = -9; p <= 9; p += 3) {
            always(LOVING, p, p, p);
            for (int b = -9; b < p; b++) {
                always(LOVING, b, p, b == p - 1 ? p : b + 2);
            }
            for (int b = p + 1; b <= 9; b++) {
                always(LOVING, b, p, b == p + 1 ? p : b - 2);
            }
        }
    }

    /** "4 TREMBLING: LOVING, and 1 more in YEARS of an odd number, 1 less in others", "9 at most, -9 at least". */
    private static void trembling() {
        behind(TREMBLING, ODD, 0, 0, 1);
        behind(TREMBLING, EVEN, 0, 0, -1);
        behind(TREMBLING, ODD, 0, 1, 2);
        behind(TREMBLING, EVEN, 0, 1, 0);
        behind(TREMBLING, ODD, 0, 9, 3);
        behind(TREMBLING, EVEN, 0, 9, 1);
        behind(TREMBLING, ODD, 0, -9, -1);
        behind(TREMBLING, EVEN, 0, -9, -3);
        behind(TREMBLING, ODD, 6, 9, 9);
        behind(TREMBLING, ODD, 6, 8, 9);
        behind(TREMBLING, ODD, 6, 7, 8);
        behind(TREMBLING, ODD, 7, 9, 9);
        behind(TREMBLING, ODD, 8, 9, 9);
        behind(TREMBLING, ODD, 9, 9, 9);
        behind(TREMBLING, EVEN, 9, 9, 8);
        behind(TREMBLING, EVEN, 8, 9, 8);
        behind(TREMBLING, EVEN, -6, -9, -9);
        behind(TREMBLING, EVEN, -6, -8, -9);
        behind(TREMBLING, EVEN, -6, -7, -8);
        behind(TREMBLING, EVEN, -7, -9, -9);
        behind(TREMBLING, EVEN, -8, -9, -9);
        behind(TREMBLING, EVEN, -9, -9, -9);
        behind(TREMBLING, ODD, -9, -9, -8);
        behind(TREMBLING, ODD, -9, 9, -6);
        behind(TREMBLING, EVEN, 9, -9, 6);
    }

    /** "5 STUCK: DRIFTING, 3 at most, -3 at least". */
    private static void stuck() {
        int[] even = {-3, -3, -3, -3, -3, -3, -2, -1, 0, 1, 2, 3, 3, 3, 3, 3, 3, 3, 3};
        int[] odd = {-3, -3, -3, -3, -3, -3, -3, -2, -1, 0, 1, 2, 3, 3, 3, 3, 3, 3, 3};
        for (int b = -9; b <= 9; b++) {
            behind(STUCK, EVEN, b, -9, even[b + 9]);
            behind(STUCK, ODD, b, 9, odd[b + 9]);
        }
    }

    private static void yearly(LevelGone x, int... offs) {
        for (int off : offs) {
            int y = x.now(2);
            Due.is("then(1) in year " + y, x.then(1), off);
            Due.is("off behind year " + y, x.year(1), off);
            Due.is("now(1)", x.now(1), off);
            Due.is("one more YEAR", x.now(2), y + 1);
        }
    }

    /** "OFF by -9 .. 9": a level that got there by years goes no farther. */
    private static void farthest() {
        yearly(Towns.of(DRIFTING), 1, 1, 2, 2, 3, 3, 4, 4, 5, 5, 6, 6, 7, 7, 8, 8, 9, 9, 9, 9);
        yearly(Towns.of(PULLED, 9, 9, 9, 9, 9, 9), 1, 2, 3, 4, 5, 6, 7, 8, 9, 9, 9);
        yearly(Towns.of(PULLED, -9, -9, -9, -9, -9, -9), -1, -2, -3, -4, -5, -6, -7, -8, -9, -9, -9);
        yearly(Towns.of(LOVING, 9, 9, 9, 9, 9, 9), 2, 4, 6, 8, 9, 9, 9);
        yearly(Towns.of(LOVING, -9, -9, -9, -9, -9, -9), -2, -4, -6, -8, -9, -9, -9);
        yearly(Towns.of(TREMBLING, 9, 9, 9, 9, 9, 9), 1, 4, 5, 8, 8, 9, 8, 9);
        yearly(Towns.of(TREMBLING, -9, -9, -9, -9, -9, -9), -3, -4, -7, -8, -9, -8, -9, -8);
        yearly(Towns.of(STUCK), 1, 1, 2, 2, 3, 3, 3, 3);
        yearly(Towns.of(PLAIN, 9, 9, 9, 9, 9, 9), 0, 0, 0, 0, 0, 0, 0);
    }

    /** "PULLS of 6 years (YEAR y has that of y by 6 left over)". */
    private static void pullsOfSix() {
        LevelGone x = Towns.of(PLAIN, 1, 2, 3, 4, 5, 6);
        for (int y = 0; y <= 13; y++) {
            Due.is("PULL of year " + y, x.now(3), y % 6 + 1);
            x.year(1);
        }
        LevelGone pulled = Towns.of(PULLED, 0, 0, 0, 0, 0, 9);
        // to 9 in year 5, back to 0 in year 6 (that of 0), again in years 11, 12
        yearly(pulled, 0, 0, 0, 0, 0, 1, 0, 0, 0, 0, 0, 1, 0);
        LevelGone first = Towns.of(PULLED, 9);
        yearly(first, 1, 0, 0, 0, 0, 0, 1, 0);
    }

    private static LevelGone atYear(LevelGone x, int year) {
        for (int at = x.now(2); at + 99 <= year; at += 99) {
            x.year(99);
        }
        if (x.now(2) < year) {
            x.year(year - x.now(2));
        }
        return x;
    }

    /** "YEARS have numbers (9999 at most)"; "at 9999 none goes by". */
    private static void lastYears() {
        LevelGone x = atYear(Towns.of(TREMBLING), 9997);
        Due.is("9997", x.now(2), 9997);
        // TREMBLING to 0: 1 more behind years of an odd number, 1 less behind others
        yearly(x, 1, -1);
        Due.is("9999", x.now(2), 9999);
        Due.is("PULL of 9999: that of 3", x.pull(3, 5), 0);
        Due.is("PULL of this YEAR", x.now(3), 5);
        int[] before = Seen.statuses(x);
        for (int n : new int[] {1, 2, 99}) {
            Due.is("none goes by of " + n, x.year(n), -1);
            Due.is("9999 still", x.now(2), 9999);
        }
        Seen.counted("years at 9999", x, before, Seen.NONE);
        int undos = x.count(5);
        Due.is("0 is BAD there, too", x.year(0), -100);
        Due.is("100 is BAD there, too", x.year(100), -100);
        Due.is("they count as BAD", x.status(0), before[0] + 2);
        Due.is("and may not be undone", x.count(5), undos);
        Due.is("count(1)", x.count(1), 9999);
        LevelGone few = atYear(Towns.of(TREMBLING), 9901);
        Due.is("98 of 98", few.year(98), -1);
        Due.is("9999", few.now(2), 9999);
        few.undo();
        Due.is("98 of 99", few.year(99), -1);
        Due.is("9999", few.now(2), 9999);
        few.undo();
        few.undo();
        few.year(98);
        few.year(99);
        Due.is("9999 by 99 of 99 or more", few.now(2), 9999);
    }

    /** "YEARS go beyond 9999 in them": THEN, WHEN, ORDER, CHANCE, TIMES, GAME. */
    private static void beyondTheLast() {
        LevelGone x = atYear(Towns.of(PULLED), 9999);
        x.pull(3, 1);
        x.pull(4, 2);
        x.pull(5, 3);
        x.pull(0, 4);
        int[] offs = {0, 1, 2, 3, 4, 3, 2, 1, 2, 3, 4};
        for (int m = 0; m < offs.length; m++) {
            Due.is("then(" + m + ") at 9999", x.then(m), offs[m]);
        }
        Due.is("when(4) at 9999", x.when(4), 4);
        Due.is("when(5) at 9999", x.when(5), -1);
        Due.is("chance(4, 4, 0)", x.chance(4, 4, 0), 1);
        Due.is("it is so for sure", x.part(0), 1);
        Due.is("chance(4, 5, 0)", x.chance(4, 5, 0), 1);
        Due.is("no longer", x.part(0), 0);
        Due.is("game() at 9999: to come gets as much", x.game(), 3);
        Due.is("order(333, -1): TILTS 0, 1, 2", x.order(333, -1), 3);
        Due.is("on one another", x.order(333, 2), 0);
        Due.is("nothing is changed", x.now(2), 9999);
        LevelGone trembling = atYear(Towns.of(TREMBLING), 9999);
        Due.is("off", trembling.now(1), -1);
        Due.is("times(0, 0)", trembling.times(0, 0), 0);
        // by SEED 0 PULL -9 in 9999: from -1 to -3, 1 more: -2; PULL 8 in 10000: to 0, 1 less: -1
        Due.is("times(0, 1)", trembling.times(0, 1), 2);
        Due.is("times(0, 2)", trembling.times(0, 2), 3);
    }

    /** "PULLS -9 .. 9 (0 at first)"; promise 3, "what it was". */
    private static void pullsAtFirst() {
        for (int y = 0; y < 6; y++) {
            LevelGone x = new LevelGone();
            Due.is("pull(" + y + ", 9)", x.pull(y, 9), 0);
            Due.is("pull(" + y + ", -9)", x.pull(y, -9), 9);
            Due.is("pull(" + y + ", 0)", x.pull(y, 0), -9);
            for (int other = 0; other < 6; other++) {
                Due.is("PULL of " + other, x.pull(other, 0), 0);
            }
        }
    }

    public static void main(String[] args) {
        plain();
        drifting();
        pulled();
        loving();
        trembling();
        stuck();
        farthest();
        pullsOfSix();
        lastYears();
        beyondTheLast();
        pullsAtFirst();
        Due.end();
    }
}
