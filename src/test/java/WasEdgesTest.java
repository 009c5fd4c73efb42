import java.math.BigInteger;

/** Promises 23 to 33 at their bounds: what was, what a level and a storey are, the game, chances and seeds. */
public final class WasEdgesTest {
    private static LevelGone offBy(int off) {
        LevelGone x = Towns.of(3);
        Towns.turnTo(x, off);
        return x;
    }

    /** BUILT "YEARS (bits 0 .. 29, from YEAR 0, OFF by 0, with PULLS as they are)". */
    private static void built() {
        LevelGone x = Towns.of(5, -9, 9, -9, 9, -9, 9);
        x.year(40);
        Due.is("PLAIN by 0: all 30 YEARS", x.built(0, 0), 0x3fffffff);
        for (int a = -9; a <= 9; a++) {
            Due.is("PLAIN by " + a, x.built(0, a), a == 0 ? 0x3fffffff : 0);
        }
        // DRIFTING: off by a in years 2a - 1 and 2a, by 9 from year 17 on
        Due.is("DRIFTING by 0: YEAR 0 alone", x.built(1, 0), 1);
        for (int a = 1; a <= 8; a++) {
            Due.is("DRIFTING by " + a, x.built(1, a), 3 << 2 * a - 1);
            Due.is("DRIFTING by -" + a, x.built(1, -a), 0);
        }
        Due.is("DRIFTING by 9, to bit 29", x.built(1, 9), 0x3fffffff - ((1 << 17) - 1));
        Due.is("STUCK by 3, to bit 29", x.built(5, 3), 0x3fffffff - ((1 << 5) - 1));
        Due.is("STUCK by 4", x.built(5, 4), 0);
        // PULLED down behind years of an even number, up behind others
        Due.is("PULLED by 0, bits 0, 2 .. 28", x.built(2, 0), 0x15555555);
        Due.is("PULLED by -1, bits 1, 3 .. 29", x.built(2, -1), 0x2aaaaaaa);
        Due.is("PULLED by 1", x.built(2, 1), 0);
        for (int kind = 0; kind < 6; kind++) {
            int years = 0;
            for (int a = -9; a <= 9; a++) {
                Due.is("each YEAR is built in once", years & x.built(kind, a), 0);
                years |= x.built(kind, a);
            }
            Due.is("all YEARS of KIND " + kind, years, 0x3fffffff);
        }
        LevelGone pulls = Towns.of(2, 0, 0, 0, 0, 0, 9);
        // up behind year 5, back behind year 6, and so on
        Due.is("PULLS by 6 left over", pulls.built(2, 1), 1 << 6 | 1 << 12 | 1 << 18 | 1 << 24);
        Due.is("pull 0 .. 5 of YEAR 29 is not seen", pulls.built(2, 0), 0x3fffffff - pulls.built(2, 1));
    }

    /** NOTES "in YEAR y (0 .. 99)", "-9 .. 9 each": each bound is taken, and told by IS. */
    private static void notes() {
        int[][] told = {{-9, 0, 1, -9}, {9, 0, 1, 9}, {0, -9, 1, 0}, {0, 9, 1, 0}, {0, 0, 0, 0}, {0, 0, 99, 0},
            {5, 0, 1, -9}, {5, 0, 1, 9}};
        // PLAIN; PLAIN, DRIFTING; ..: by a pull far away, and by 0
        int[] kinds = {1 | 2, 1 | 2, 1 | 2 | 32, 1 | 2 | 32, 1 | 4 | 8, 1 | 2 | 4 | 8 | 32, 0, 0};
        for (int i = 0; i < told.length; i++) {
            LevelGone x = Towns.of(5, 9, 9);
            int[] n = told[i];
            Due.is("NOTE " + i, x.note(n[0], n[1], n[2], n[3]), 1);
            Due.is("is() by NOTE " + i, x.is(), kinds[i]);
            Due.is("no status", x.status(0) + x.status(1) + x.status(2), 0);
        }
    }

    /** IS "KINDS (bits) by which all NOTES are so": of none all; of 1 to 6; the last counts, too. */
    private static void is() {
        Due.is("of no NOTES", new LevelGone().is(), 63);
        for (int i = 0; i < 6; i++) {
            LevelGone x = new LevelGone();
            for (int n = 0; n < 6; n++) {
                // off by 0 by a pull of 0 in an odd year: all but TREMBLING; by 1: TREMBLING alone
                x.note(0, 0, 1, n == i ? 1 : 0);
                boolean mixed = n >= i && n > 0;
                Due.is("NOTE " + n + " of one unlike", x.is(), mixed ? 0 : n == i ? 16 : 47);
            }
        }
    }

    /** Off by b in YEAR y with pull p THE LEVEL was off by a behind it, so often; then WATCH. */
    private static void watching(int off, int want, int kinds, int... notes) {
        LevelGone x = offBy(off);
        for (int i = 0; i + 3 < notes.length; i += 4) {
            x.note(notes[i], notes[i + 1], notes[i + 2], notes[i + 3]);
        }
        String call = "watch() off by " + off + " of KINDS " + kinds;
        Due.is(call + ": is()", x.is(), kinds);
        int[] before = Seen.statuses(x);
        Due.is(call, x.watch(), want);
        Seen.counted(call, x, before, Seen.NONE);
    }

    /** WATCH "100 y and 9 more than p (YEAR y 0 .. 5, PULL p -9 .. 9)"; "of like ones the least"; "none: no KIND". */
    private static void watch() {
        watching(0, -1, 0, 0, 0, 0, 9);
        watching(9, -1, 0, 0, 0, 0, 9);
        // one KIND: alike with itself always; so the least, 0
        watching(0, 0, 1, 0, 9, 1, 0, 3, 9, 0, 3, 5, 9, 1, 5);
        watching(-9, 0, 8, -9, -7, 0, -7);
        watching(9, 0, 8, -9, -7, 0, -7);
        // PULLED, LOVING: alike where the pull is 1 away or none, unlike by 2; from -9: pull -7, that is 2
        watching(-9, 2, 12, -9, -8, 1, -8);
        watching(-8, 3, 12, -9, -8, 1, -8);
        watching(-7, 0, 12, -9, -8, 1, -8);
        watching(9, 0, 12, -9, -8, 1, -8);
        // all KINDS: from 0 by pull -9 in YEAR 0: 0, 1, -1, -2, -3, 1: two alike at most
        watching(0, 0, 63);
        // from -8, -9 two are alike at most in odd years alone, the first by pull -7, -8
        watching(-8, 102, 63);
        watching(-9, 101, 63);
        // TREMBLING and the others but DRIFTING, STUCK, from -7: in an odd year by pull -5
        watching(-7, 104, 28, -8, -9, 0, -9);
        // TREMBLING, STUCK from 6 in an even year: both 3 by pulls to 4; by 5 TREMBLING 4
        watching(6, 14, 48, -6, -4, 1, -3);
        // PULLED, LOVING, STUCK from 5: all apart by pulls from 7 on: 6, 7, 3
        watching(5, 16, 44, -4, -3, 1, -3);
        // DRIFTING, too: 6 as PULLED in an even year, so an odd one
        watching(5, 116, 46, -4, -3, 0, -3);
    }

    /** MARKS "a name (0 .. 9), a on u (-9 .. 9 both), LOAD l (0 .. 30), STOOD (1) or not (0)": each bound is taken. */
    private static void marks() {
        int[][] told = {{0, 0, 0, 0, 1}, {9, 0, 0, 0, 1}, {4, -9, -9, 0, 1}, {4, 9, 9, 0, 1}, {4, -9, 9, 0, 1},
            {4, 9, -9, 0, 1}, {4, 0, 0, 30, 1}, {4, 0, 0, 30, 0}, {4, 9, -9, 30, 0}, {4, 9, -9, 30, 1}};
        int[] kinds = {63, 63, 31, 31, 8, 8, 5, 58, 63, 0};
        for (int i = 0; i < told.length; i++) {
            LevelGone x = new LevelGone();
            int[] m = told[i];
            Due.is("MARK " + i, x.mark(m[0], m[1], m[2], m[3], m[4]), 1);
            for (int name = 0; name <= 9; name++) {
                Due.is("kinds(" + name + ") by MARK " + i, x.kinds(name), name == m[0] ? kinds[i] : 63);
            }
            Due.is("no status", x.status(0) + x.status(1) + x.status(2), 0);
        }
    }

    /** WHAT "by which all MARKS of one name are so": of 1 to 6, the last counts, too; of other names none does. */
    private static void what() {
        for (int i = 0; i < 6; i++) {
            LevelGone x = new LevelGone();
            for (int n = 0; n < 6; n++) {
                // LOAD 30: PLAIN and CHURCH bear it
                x.mark(3, 0, 0, n == i ? 30 : 0, 1);
                x.mark(2, 0, 0, 30, 0);
                Due.is("MARK " + n + " of one unlike", x.kinds(3), n >= i && x.count(4) > 2 * i ? 5 : 63);
            }
        }
    }

    private static void trying(int want, int kinds, int... marks) {
        LevelGone x = new LevelGone();
        for (int i = 0; i + 3 < marks.length; i += 4) {
            x.mark(7, marks[i], marks[i + 1], marks[i + 2], marks[i + 3]);
        }
        String call = "tries(7) of KINDS " + kinds;
        Due.is(call + ": kinds(7)", x.kinds(7), kinds);
        int[] before = Seen.statuses(x);
        Due.is(call, x.tries(7), want);
        Seen.counted(call, x, before, Seen.NONE);
        Due.is("of another name: of all KINDS", x.tries(6), 6);
    }

    /** TRY "100 a and l (a 0 .. 9, LOAD 0 .. 9)"; "of like ones the least"; "none: no KIND". */
    private static void tries() {
        trying(-1, 0, 9, -9, 30, 1);
        // of one KIND: the greater part is one always; so the least, 0
        trying(0, 8, 9, -9, 3, 1);
        trying(0, 1, 2, 0, 30, 1);
        trying(0, 4, 0, 0, 30, 1, 2, 0, 0, 0);
        // PLAIN, CHURCH: they differ by TILT 2 alone
        trying(200, 5, 0, 0, 9, 1);
        // SHED, HUT: by TILT 7 alone
        trying(700, 40, 3, 0, 0, 1);
        // PLAIN, BRICK: by LOAD 9, the greatest
        trying(9, 3, 2, 0, 4, 1);
        // PLAIN, BRICK, SHED, HUT: by LOAD 4, the least that two bear
        trying(4, 43, 2, 0, 0, 1);
        // all: by LOAD 6 three and three
        trying(6, 63);
    }

    private static void resting(LevelGone x, int off, int pairs) {
        Due.is("off", x.now(1), off);
        int[] before = Seen.statuses(x);
        Due.is("game() off by " + off, x.game(), pairs);
        Seen.counted("game()", x, before, Seen.NONE);
    }

    /**
     * GAME "neither would get more by doing otherwise": as much is not more. To come costs 1, to hold 2.
     * Where the keeper holds, the carrier gets more by not coming; and with no pull THE LEVEL never goes 2 farther
     * off, so that to hold never pays: bits 2 and 3 rest never.
     */
    private static void game() {
        // LOVING, pulled to where it is: 2 nearer to 0 without it, 1 from 1
        for (int off = -9; off <= 9; off++) {
            resting(offBy(off), off, off == 0 ? 1 : off == 1 || off == -1 ? 3 : 2);
        }
        // PULLED from 0: off by 1 if it comes: 1 less 1 is as much as 0
        resting(Towns.of(2, 1), 0, 3);
        resting(Towns.of(2, -9), 0, 3);
        // LOVING from 0 by 2: 2 less 1 is more; to hold is 0 less 2, as much as 0 less 2
        resting(Towns.of(3, 2), 0, 2);
        resting(Towns.of(3, -2), 0, 2);
        resting(Towns.of(3, 1), 0, 3);
        resting(Towns.of(3, 0), 0, 1);
        // TREMBLING from -1 in year 1: 3 nearer with pull 9, 2; 1 without: 2 less 1 is as much
        LevelGone trembling = Towns.of(4, 0, 9);
        trembling.year(1);
        resting(trembling, -1, 3);
        // from 0 in year 1: 3 with pull 9, 1 without: to come is more; to hold then is 2 against 3: none rests
        LevelGone unrest = Towns.of(4, 1, 9);
        unrest.year(1);
        resting(unrest, 0, 0);
        // DRIFTING from 0: 1 either way; to come costs 1
        resting(Towns.of(1, 9), 0, 1);
        LevelGone drifted = Towns.drifted(17);
        resting(drifted, 9, 1);
        // PULL of this YEAR, not of year 0
        LevelGone later = Towns.of(2, 0, 0, 0, 0, 0, 9);
        later.year(4);
        resting(later, 0, 1);
        later.year(1);
        resting(later, 0, 3);
    }

    private static void chances(LevelGone x, int off, int m, int c, long above, long below) {
        String call = "chance(" + off + ", " + m + ", " + c + ")";
        int[] before = Seen.statuses(x);
        Due.is(call, x.chance(off, m, c), 1);
        Due.is(call + ": above", x.part(0), above);
        Due.is(call + ": below", x.part(1), below);
        Seen.counted(call, x, before, Seen.NONE);
    }

    /** CHANCE "by c of 10 (0 .. 10) there is no PULL"; "behind m (0 .. 8) YEARS"; "OFF by x (1 .. 9) or more". */
    private static void chance() {
        for (int off = -9; off <= 9; off++) {
            for (int by = 1; by <= 9; by++) {
                chances(offBy(off), by, 0, 5, Math.abs(off) >= by ? 1 : 0, 1);
            }
        }
        LevelGone x = Towns.of(2, 9, 9, 9, 9, 9, 9);
        int[][] once = {{1, 1}, {9, 10}, {4, 5}, {7, 10}, {3, 5}, {1, 2}, {2, 5}, {3, 10}, {1, 5}, {1, 10}, {0, 1}};
        for (int c = 0; c <= 10; c++) {
            chances(x, 1, 1, c, once[c][0], once[c][1]);
        }
        // to 8 only if pulled in each of 8
        long[] ones = {1, 10, 100, 1000, 10000, 100000, 1000000, 10000000, 100000000};
        for (int m = 1; m <= 8; m++) {
            chances(x, m, m, 9, 1, ones[m]);
            chances(x, m, m, 0, 1, 1);
            chances(x, m, m, 10, 0, 1);
            chances(x, m + 1, m, 0, 0, 1);
        }
        // 9 of 10, eight times
        chances(x, 8, 8, 1, 43046721, 100000000);
        LevelGone below = Towns.of(2, -9, -9, -9, -9, -9, -9);
        chances(below, 8, 8, 1, 43046721, 100000000);
        chances(below, 8, 8, 9, 1, 100000000);
        // "lowest terms": 5 of 10, eight times
        chances(below, 8, 8, 5, 1, 256);
        chances(below, 7, 7, 8, 1, 78125);
    }

    /** "in a YEAR, apart": PULLS of YEARS from now on, by 6 left over. */
    private static void chanceOfYears() {
        LevelGone x = Towns.of(2, 9, 0, 0, 0, 0, 9);
        x.year(5);
        Due.is("off", x.now(1), 0);
        // years 5 and 6 pull to 9, years 7, 8, .. to 0: 1 nearer either way
        chances(x, 1, 1, 4, 3, 5);
        chances(x, 2, 2, 4, 9, 25);
        // 2 behind two, 1 behind three; not so by 1: 0
        chances(x, 1, 3, 4, 9, 25);
        chances(x, 1, 4, 4, 0, 1);
    }

    /** TIMES "SEED (0 .. 999999), n (0 .. 60) YEARS": by the least and the greatest of both. */
    private static void times() {
        LevelGone plain = offBy(-9);
        plain.town(0);
        Due.is("PLAIN off by 0", plain.times(999999, 60), 0);
        LevelGone stuck = Towns.of(5);
        stuck.year(9);
        for (int n = 0; n <= 60; n++) {
            Due.is("off by 3 each YEAR of " + n, stuck.times(0, n), 3 * n);
            Due.is("by another SEED", stuck.times(999999, n), 3 * n);
        }
        LevelGone drifted = Towns.drifted(17);
        Due.is("the most: 60 times 9", drifted.times(0, 60), 540);
        for (int seed : new int[] {0, 1, 2, 12345, 500000, 999998, 999999}) {
            timesOf(seed);
        }
        LevelGone pulled = Towns.of(2);
        Due.that("times(0, 60)", pulled.times(0, 60) > 0);
        Due.is("nothing is changed", pulled.now(1), 0);
        int[] before = Seen.statuses(pulled);
        pulled.times(0, 0);
        pulled.times(999999, 60);
        Seen.counted("times", pulled, before, Seen.NONE);
    }

    /** "X times 1103515245 and 12345, by 2147483648 what is left over; X by 65536 (cut), by 19 left over, less 9". */
    private static void timesOf(int seed) {
        LevelGone loving = Towns.of(3, 9, 9, 9);
        loving.year(1);
        LevelGone trembling = Towns.of(4, 9, 9, 9);
        trembling.year(1);
        BigInteger x = BigInteger.valueOf(seed);
        int off = 2;
        int trembled = 1;
        int sum = 0;
        int sumTrembled = 0;
        for (int n = 0; n <= 60; n++) {
            Due.is("LOVING: times(" + seed + ", " + n + ")", loving.times(seed, n), sum);
            Due.is("TREMBLING: times(" + seed + ", " + n + ")", trembling.times(seed, n), sumTrembled);
            x = x.multiply(BigInteger.valueOf(1103515245)).add(BigInteger.valueOf(12345))
                    .mod(BigInteger.ONE.shiftLeft(31));
            int p = x.shiftRight(16).intValue() % 19 - 9;
            off += Math.max(-2, Math.min(2, p - off));
            trembled += Math.max(-2, Math.min(2, p - trembled)) + (n % 2 == 0 ? 1 : -1);
            trembled = Math.max(-9, Math.min(9, trembled));
            sum += Math.abs(off);
            sumTrembled += Math.abs(trembled);
        }
    }

    /** Promise 26: "No NOTES (0), MARKS (1): how many there were": of 0 to 6, the others stay. */
    private static void forget() {
        for (int n = 0; n <= 6; n++) {
            LevelGone x = new LevelGone();
            for (int i = 0; i < n; i++) {
                x.note(0, 0, 0, 9);
                x.mark(0, 9, -9, 30, 1);
            }
            int[] before = Seen.statuses(x);
            Due.is("forget(0) of " + n, x.forget(0), n);
            Due.is("NOTES", x.count(3), 0);
            Due.is("MARKS stay", x.count(4), n);
            Due.is("is()", x.is(), 63);
            Due.is("kinds(0)", x.kinds(0), n > 0 ? 0 : 63);
            Due.is("forget(1) of " + n, x.forget(1), n);
            Due.is("MARKS", x.count(4), 0);
            Due.is("kinds(0)", x.kinds(0), 63);
            Due.is("forget(0) again", x.forget(0), 0);
            Due.is("forget(1) again", x.forget(1), 0);
            Seen.counted("forget", x, before, Seen.NONE);
        }
    }

    public static void main(String[] args) {
        built();
        notes();
        is();
        watch();
        marks();
        what();
        tries();
        game();
        chance();
        chanceOfYears();
        times();
        forget();
        Due.end();
    }
}
