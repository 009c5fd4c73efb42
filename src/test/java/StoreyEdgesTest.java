/** Kinds of storeys at their bounds: built on plots, told as fits, and told by marks. */
public final class StoreyEdgesTest {
    private static final int PLAIN = 0, BRICK = 1, CHURCH = 2, SHED = 3, TOWER = 4, HUT = 5;
    private static final int LOVING_LEVEL = 3;
    private static final int NEVER = -1;

    /** Whether a KIND stands, tilted by a on u, with LOAD l: by a MARK that it STOOD, and by one that it did not. */
    private static void stands(int kind, int a, int u, int l, boolean want) {
        LevelGone x = new LevelGone();
        String call = "KIND " + kind + " tilted by " + a + " on " + u + ", LOAD " + l;
        x.mark(0, a, u, l, 1);
        x.mark(9, a, u, l, 0);
        Due.is(call + ": STOOD", x.kinds(0) >> kind & 1, want ? 1 : 0);
        Due.is(call + ": did not", x.kinds(9) >> kind & 1, want ? 0 : 1);
    }

    /** All pairs of tilts, unlike by 0 to 18, with a load that all bear. */
    private static void unlikeBy(int kind, int most) {
        for (int a = -9; a <= 9; a++) {
            for (int u = -9; u <= 9; u++) {
                boolean hut = kind != HUT || a >= -6 && a <= 6;
                stands(kind, a, u, 0, a - u <= most && u - a <= most && hut);
            }
        }
    }

    private static void bears(int kind, int most) {
        for (int l = 0; l <= 30; l++) {
            stands(kind, 0, 0, l, most == NEVER || l <= most);
        }
    }

    /** "a and u are unlike by 2 or less"; "unlike by 1 or less"; "whatever a, u are"; "a is -6 to 6". */
    private static void tilts() {
        unlikeBy(PLAIN, 2);
        unlikeBy(BRICK, 2);
        unlikeBy(CHURCH, 1);
        unlikeBy(SHED, 18);
        unlikeBy(TOWER, 1);
        unlikeBy(HUT, 18);
    }

    /** "l is 8 or less"; "l is 3 or less"; "l is 5 or less"; PLAIN and CHURCH bear all. */
    private static void loads() {
        bears(PLAIN, NEVER);
        bears(BRICK, 8);
        bears(CHURCH, NEVER);
        bears(SHED, 3);
        bears(TOWER, 5);
        bears(HUT, 3);
    }

    /** Both at once: one that is too much is enough. */
    private static void tiltsAndLoads() {
        stands(BRICK, 2, 0, 8, true);
        stands(BRICK, 2, 0, 9, false);
        stands(BRICK, 3, 0, 8, false);
        stands(BRICK, -9, -7, 8, true);
        stands(TOWER, -1, 0, 5, true);
        stands(TOWER, -1, 0, 6, false);
        stands(TOWER, -2, 0, 5, false);
        stands(SHED, 9, -9, 3, true);
        stands(SHED, 9, -9, 4, false);
        stands(HUT, 6, -9, 3, true);
        stands(HUT, 6, -9, 4, false);
        stands(HUT, 7, 7, 3, false);
        stands(HUT, -6, 9, 3, true);
        stands(HUT, -7, 9, 0, false);
        stands(PLAIN, 9, 7, 30, true);
        stands(PLAIN, 9, 6, 30, false);
        stands(CHURCH, 9, 8, 30, true);
        stands(CHURCH, 9, 7, 0, false);
    }

    /** Builds kinds by string, one on the other, and compares how many stand behind each. */
    private static LevelGone column(String kinds, String heights) {
        LevelGone x = new LevelGone();
        for (int i = 0; i < kinds.length(); i++) {
            int kind = kinds.charAt(i) - '0';
            int want = heights.charAt(i) - '0';
            Due.is("fits " + i + " of " + kinds, x.fits(2, kind, 1), want);
            Due.is("storey " + i + " of " + kinds, x.build(2, kind, 1), want);
            Due.is("height behind " + i + " of " + kinds, x.plot(2, 0), want);
        }
        return x;
    }

    /** What the lowest bears when it is built on: the last load that it bears, and the first that it does not. */
    private static void loadsBuilt() {
        column("122", "123");
        column("124", "120");
        column("1000", "1234");
        column("10000", "12345");
        column("10003", "12345");
        column("10001", "12340");
        column("31", "12");
        column("303", "123");
        column("300", "120");
        column("32", "10");
        column("51", "12");
        column("3333", "1234");
        column("33333", "12340");
        column("55555", "12340");
        column("52", "10");
        column("44", "12");
        column("412", "120");
        column("401", "123");
        column("411", "120");
        column("02224", "12345");
        column("22224", "12345");
        column("22222", "12345");
    }

    /** "2", "1 more than PLAIN", "twice PLAIN", "1 less than PLAIN", "1 more than CHURCH", "as SHED". */
    private static void heavy() {
        int[] heavy = {2, 3, 4, 1, 5, 1};
        for (int kind = 0; kind < 6; kind++) {
            LevelGone x = new LevelGone();
            x.build(3, kind, 0);
            Due.is("alone, KIND " + kind, x.plot(3, 2), heavy[kind]);
            LevelGone y = new LevelGone();
            y.build(0, CHURCH, 0);
            y.build(0, kind, 0);
            Due.is("LOAD by KIND " + kind, y.of(0, 0, 2), heavy[kind]);
            Due.is("none on the highest", y.of(0, 1, 2), 0);
            Due.is("both", y.plot(0, 2), 4 + heavy[kind]);
        }
    }

    /** "LOAD on a STOREY: all above it together", of 1 to 5 storeys. */
    private static void loadOf() {
        LevelGone x = new LevelGone();
        int[] kinds = {CHURCH, PLAIN, TOWER, BRICK, SHED};
        int[][] loads = {{0}, {2, 0}, {7, 5, 0}, {10, 8, 3, 0}, {11, 9, 4, 1, 0}};
        int[] heavy = {4, 6, 11, 14, 15};
        for (int height = 1; height <= 5; height++) {
            x.build(1, kinds[height - 1], 0);
            for (int i = 0; i < height; i++) {
                Due.is("LOAD on " + i + " of " + height, x.of(1, i, 2), loads[height - 1][i]);
                Due.is("KIND of " + i, x.of(1, i, 0), kinds[i]);
            }
            Due.is("all", x.plot(1, 2), heavy[height - 1]);
            for (int what = 0; what <= 2; what++) {
                Due.is("none behind the highest of " + height, x.of(1, height, what), -100);
            }
        }
    }

    /** The most there may be: four CHURCHES bear all, the heaviest above them is a TOWER. */
    private static void mostLoad() {
        LevelGone x = new LevelGone();
        int[] kinds = {CHURCH, CHURCH, CHURCH, CHURCH, TOWER};
        int[] loads = {17, 13, 9, 5, 0};
        for (int kind : kinds) {
            x.build(5, kind, 0);
        }
        for (int i = 0; i < 5; i++) {
            Due.is("LOAD on " + i + " of the heaviest", x.of(5, i, 2), loads[i]);
        }
        Due.is("all of the heaviest", x.plot(5, 2), 21);
    }

    /** "the lowest of the PLOT that does not STAND falls, with all above it, again and again". */
    private static void falls() {
        // PLAIN, SHED, CHURCH: the SHED falls, with the CHURCH
        column("032", "121");
        // SHED on SHED, both bear too much: the lower falls, with all above it
        column("3300", "1230");
        // a SHED in the middle: what is below it stays, and is built on again
        column("02311", "12342");
        column("023112", "123423");
        // the new one alone bears nothing, and stays where those below bear it
        column("13333", "12345");
        LevelGone x = column("0220", "1234");
        Due.is("the lowest", x.of(2, 0, 0), PLAIN);
        Due.is("the highest", x.of(2, 3, 0), PLAIN);
        LevelGone tilted = Towns.tops(0, 0, 2);
        Towns.turnTo(tilted, 5);
        Due.is("off by 5 on 2: it falls alone", tilted.build(2, PLAIN, 0), 1);
        Due.is("TOP still", tilted.plot(2, 1), 2);
        Due.is("BRICK by string on 2: SHED bears it", tilted.build(2, BRICK, 1), 2);
        Due.is("TOP", tilted.plot(2, 1), 0);
        Due.is("CHURCH by string: too much for the SHED", tilted.build(2, CHURCH, 1), 0);
        Due.is("TOP of none", tilted.plot(2, 1), 0);
        Due.is("none", tilted.of(2, 0, 0), -100);
    }

    /** "(the ground: 0)": the lowest of a plot, tilted as THE LEVEL is OFF, at each bound either way. */
    private static void onTheGround() {
        int[] most = {2, 2, 1, 9, 1, 6};
        for (int kind = 0; kind < 6; kind++) {
            for (int off = -9; off <= 9; off++) {
                LevelGone x = Towns.of(LOVING_LEVEL);
                Towns.turnTo(x, off);
                Due.is("off", x.now(1), off);
                int want = off <= most[kind] && off >= -most[kind] ? 1 : 0;
                Due.is("KIND " + kind + " fits by " + off, x.fits(4, kind, 0), want);
                Due.is("by string it stands", x.fits(4, kind, 1), 1);
                Due.is("KIND " + kind + " by " + off, x.build(4, kind, 0), want);
                Due.is("TOP", x.plot(4, 1), want == 1 ? off : 0);
                Due.is("another PLOT", x.plot(5, 0), 0);
            }
        }
    }

    /** On what is tilted by u: the last tilt that stands, the first that does not, either way. */
    private static void onOneAnother() {
        int[] most = {2, 2, 1, 18, 1, 18};
        for (int u = -2; u <= 2; u++) {
            for (int kind = 0; kind < 6; kind++) {
                for (int off = u - 3; off <= u + 3; off++) {
                    LevelGone x = Towns.of(LOVING_LEVEL);
                    Towns.turnTo(x, u);
                    x.build(1, PLAIN, 0);
                    Towns.turnTo(x, off);
                    int want = Math.abs(off - u) <= most[kind] ? 2 : 1;
                    Due.is("KIND " + kind + " by " + off + " on " + u, x.build(1, kind, 0), want);
                    Due.is("TILT of the lower", x.of(1, 0, 1), u);
                    Due.is("TOP", x.plot(1, 1), want == 2 ? off : u);
                }
            }
        }
    }

    /** "TILTED as THE LEVEL is OFF (0 by string)"; FITS "by THE LEVEL (0), by string (1)". */
    private static void byString() {
        for (int off = -9; off <= 9; off++) {
            LevelGone x = Towns.of(LOVING_LEVEL);
            Towns.turnTo(x, off);
            x.build(0, SHED, 1);
            x.build(1, SHED, 0);
            Due.is("by string", x.of(0, 0, 1), 0);
            Due.is("by THE LEVEL", x.of(1, 0, 1), off);
        }
    }

    /** "TOP of a PLOT: TILT of its highest STOREY (none: 0)": of 0 to 5 storeys, beside one of 5 that are tilted. */
    private static void tops() {
        for (int p = 0; p < 5; p++) {
            LevelGone x = Towns.of(LOVING_LEVEL);
            Towns.turnTo(x, -1);
            for (int i = 0; i < 5; i++) {
                x.build(p, CHURCH, 0);
            }
            Due.is("TOP of five", x.plot(p, 1), -1);
            Due.is("TOP of none beside it", x.plot(p + 1, 1), 0);
            Due.is("LEVEL ones", x.lies(0), 63 - (1 << p));
            for (int i = 0; i < 5; i++) {
                x.build(p + 1, PLAIN, i % 2);
                Due.is("TOP of " + i + " and 1", x.plot(p + 1, 1), i % 2 == 0 ? -1 : 0);
            }
            x.undo();
            Due.is("TOP of four", x.plot(p + 1, 1), 0);
        }
    }

    /** FITS "none: it has 5": with 4 it may, with 5 none of any kind does. */
    private static void fitsOnFourAndFive() {
        for (int kind = 0; kind < 6; kind++) {
            LevelGone x = new LevelGone();
            for (int i = 0; i < 4; i++) {
                x.build(5, CHURCH, 0);
            }
            int fifth = kind;
            Due.is("KIND " + kind + " on four", x.fits(5, kind, 0), 5);
            x.build(5, kind, 1);
            Due.is("KIND " + kind + " on five", x.fits(5, kind, 0), -1);
            Due.is("by string", x.fits(5, kind, 1), -1);
            Due.is("none is no status", x.status(0) + x.status(1) + x.status(2), 0);
            Seen.asked("fits: none", Towns::full, t -> t.fits(0, fifth, 1), -1);
            Seen.refused("fits: not as told on five", Towns::full, t -> t.fits(0, fifth, 2), -2, Seen.BAD);
        }
    }

    public static void main(String[] args) {
        tilts();
        loads();
        tiltsAndLoads();
        loadsBuilt();
        heavy();
        loadOf();
        mostLoad();
        falls();
        onTheGround();
        onOneAnother();
        byString();
        tops();
        fitsOnFourAndFive();
        Due.end();
    }
}
