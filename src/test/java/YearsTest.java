/** Promises 8 to 13: building, years, undoing, and what there is of levels and plots. */
public final class YearsTest {
    /** A column built by string, kinds told by figures; how many storeys stand behind each. */
    private static LevelGone column(String kinds, String heights) {
        LevelGone x = new LevelGone();
        for (int i = 0; i < kinds.length(); i++) {
            Due.is("column " + kinds + ", storey " + i, x.build(4, kinds.charAt(i) - '0', 1), heights.charAt(i) - '0');
        }
        return x;
    }

    private static void loads() {
        column("00000", "12345");
        column("22222", "12345");
        // BRICK bears 8, not 9
        column("12000", "12340");
        column("1220", "1230");
        column("144", "120");
        // SHED bears 3: three of them, one BRICK; not 4
        column("33333", "12340");
        column("312", "120");
        column("32", "10");
        // HUT as SHED
        column("51", "12");
        column("52", "10");
        // TOWER bears 5, not 6
        column("44", "12");
        column("411", "120");
        column("4003", "1234");
        column("400", "123");
        column("402", "120");
        // the lowest that does not stand falls, what is below it stays
        column("0320", "1212");
        column("2144", "1231");
        column("21440", "12312");
    }

    private static void weights() {
        int[] heavy = {2, 3, 4, 1, 5, 1};
        for (int kind = 0; kind < 6; kind++) {
            LevelGone x = new LevelGone();
            x.build(0, kind, 0);
            Due.is("weight of kind " + kind, x.plot(0, 2), heavy[kind]);
            Due.is("kind " + kind, x.of(0, 0, 0), kind);
        }
        LevelGone x = column("02153", "12345");
        Due.is("all", x.plot(4, 2), 11);
        int[] loads = {9, 5, 2, 1, 0};
        for (int i = 0; i < 5; i++) {
            Due.is("load on " + i, x.of(4, i, 2), loads[i]);
        }
    }

    /** Years of a drifting level until it is off by so much, and the heights of each kind built then. */
    private static void tilts() {
        int[] years = {0, 1, 3, 5, 11, 13, 17};
        int[] offs = {0, 1, 2, 3, 6, 7, 9};
        String[] standing = {"111111", "111111", "110101", "000101", "000101", "000100", "000100"};
        for (int i = 0; i < years.length; i++) {
            LevelGone x = Towns.drifted(years[i]);
            Due.is("off behind " + years[i] + " years", x.now(1), offs[i]);
            for (int kind = 0; kind < 6; kind++) {
                Due.is("kind " + kind + " tilted by " + offs[i], x.build(kind, kind, 0), standing[i].charAt(kind) - '0');
            }
            for (int kind = 0; kind < 6; kind++) {
                Due.is("kind " + kind + " by string", x.fits(kind, kind, 1) > 0 ? 1 : 0, upright(x, kind));
            }
        }
    }

    /** By string it stands on the ground always, on a SHED or HUT whatever it is tilted by, if it is one. */
    private static int upright(LevelGone x, int kind) {
        int under = x.plot(kind, 1);
        return kind == 3 || kind == 5 || Math.abs(under) <= (kind == 0 || kind == 1 ? 2 : 1) ? 1 : 0;
    }

    private static void unlikeWhatIsBelow() {
        LevelGone x = Towns.drifted(3);
        Due.is("PLAIN off by 2 on the ground", x.build(0, 0, 0), 1);
        x.year(4);
        Due.is("off by 4", x.now(1), 4);
        Due.is("PLAIN off by 4 on 2", x.build(0, 0, 0), 2);
        Due.is("CHURCH off by 4 on 4", x.build(0, 2, 0), 3);
        x.year(2);
        Due.is("CHURCH off by 5 on 4", x.build(0, 2, 0), 4);
        Due.is("upright on 5: it falls alone", x.build(0, 0, 1), 4);
        Due.is("TOP", x.plot(0, 1), 5);
        Due.is("TILT of the lowest", x.of(0, 0, 1), 2);
        LevelGone down = Towns.of(2, -9, -9, -9, -9, -9, -9);
        down.year(2);
        Due.is("PLAIN off by -2", down.build(0, 0, 0), 1);
        Due.is("CHURCH off by -2", down.build(1, 2, 0), 0);
        down.year(4);
        Due.is("HUT off by -6", down.build(2, 5, 0), 1);
        Due.is("TOP below 0", down.plot(2, 1), -6);
        down.year(1);
        Due.is("HUT off by -7", down.build(3, 5, 0), 0);
        Due.is("SHED off by -7", down.build(4, 3, 0), 1);
    }

    private static void buildRefused() {
        LevelGone x = new LevelGone();
        int[][] wrong = {{-1, 0, 0}, {6, 0, 0}, {0, -1, 0}, {0, 6, 0}, {0, 0, -1}, {0, 0, 2}};
        for (int[] w : wrong) {
            Due.is("build(" + w[0] + ", " + w[1] + ", " + w[2] + ")", x.build(w[0], w[1], w[2]), -2);
        }
        for (int i = 1; i <= 5; i++) {
            Due.is("storey " + i, x.build(5, 0, 0), i);
        }
        Due.is("a sixth", x.build(5, 0, 0), -4);
        Due.is("a sixth, not as told", x.build(5, 0, 2), -2);
        Due.is("storeys", x.count(0), 5);
        Due.is("undos", x.count(5), 5);
    }

    private static void years() {
        LevelGone plain = Towns.of(0, 9, 9, 9, 9, 9, 9);
        Due.is("PLAIN", plain.year(99), 0);
        LevelGone drifting = Towns.of(1);
        Due.is("DRIFTING in year 0", drifting.year(1), 1);
        Due.is("DRIFTING in year 1", drifting.year(1), 1);
        Due.is("DRIFTING in years 2 to 15", drifting.year(14), 8);
        Due.is("DRIFTING, 9 at most", drifting.year(99), 9);
        LevelGone pulled = Towns.of(2, 3, 3, 3, 3, -1, -1);
        Due.is("PULLED to 3", pulled.year(2), 2);
        Due.is("PULLED, there", pulled.year(2), 3);
        Due.is("PULLED back", pulled.year(1), 2);
        Due.is("PULLED by year 5's, 0's", pulled.year(2), 2);
        LevelGone loving = Towns.of(3, 3, 3, -4, -4, 0, 0);
        Due.is("LOVING", loving.year(1), 2);
        Due.is("LOVING, there behind one", loving.year(1), 3);
        Due.is("LOVING down", loving.year(2), -1);
        Due.is("LOVING to 0", loving.year(1), 0);
        LevelGone trembling = Towns.of(4, 9, 9, 9, 9, 9, 9);
        Due.is("TREMBLING in an even year", trembling.year(1), 1);
        Due.is("TREMBLING in an odd year", trembling.year(1), 4);
        Due.is("TREMBLING in an even year", trembling.year(1), 5);
        Due.is("TREMBLING in an odd year", trembling.year(1), 8);
        Due.is("TREMBLING, 1 less of 9", trembling.year(1), 8);
        Due.is("TREMBLING, 9 at most", trembling.year(1), 9);
        LevelGone stuck = Towns.of(5);
        Due.is("STUCK as DRIFTING", stuck.year(3), 2);
        Due.is("STUCK at 3", stuck.year(99), 3);
        LevelGone below = Towns.of(4, -9, -9, -9, -9, -9, -9);
        Due.is("TREMBLING below: -3, -4, -7, -8, -9", below.year(5), -9);
        Due.is("year(0)", below.year(0), -100);
        Due.is("year(100)", below.year(100), -100);
        Due.is("year(-1)", below.year(-1), -100);
        Due.is("the year", below.now(2), 5);
    }

    private static void lastYear() {
        LevelGone x = Towns.of(2, 1, -1, 1, -1, 1, -1);
        for (int i = 0; i < 101; i++) {
            x.year(99);
        }
        // 101 times 99 is 9999, of an odd number of years 1 is left
        Due.is("year 9999", x.now(2), 9999);
        Due.is("off", x.now(1), 1);
        Due.is("undos", x.count(5), 8);
        Due.is("at 9999 none goes by", x.year(5), 1);
        Due.is("year 9999 still", x.now(2), 9999);
        Due.is("which may be undone", x.undo(), 9999);
        Due.is("undos behind it", x.count(5), 7);
        Due.is("undone to", x.undo(), 9900);
        x.year(98);
        Due.is("year 9998", x.now(2), 9998);
        x.year(99);
        Due.is("only one goes by", x.now(2), 9999);
        Due.is("then(1): year 9999 pulls by -1", x.then(1), 0);
        Due.is("then(2): year 10000 pulls by that of 4", x.then(2), 1);
        Due.is("then(3)", x.then(3), 0);
    }

    private static void undo() {
        LevelGone x = Towns.of(1);
        Due.is("none yet", x.undo(), -3);
        x.year(1);
        x.build(0, 0, 0);
        x.build(0, 2, 0);
        x.year(2);
        x.note(1, 1, 1, 1);
        x.mark(1, 1, 1, 1, 1);
        Due.is("undos", x.count(5), 4);
        Due.is("undo years", x.undo(), 1);
        Due.is("off", x.now(1), 1);
        Due.is("storeys stay", x.count(0), 2);
        Due.is("undo a building", x.undo(), 1);
        Due.is("storeys", x.plot(0, 0), 1);
        Due.is("notes stay", x.count(3), 1);
        Due.is("marks stay", x.count(4), 1);
        Due.is("undo a building", x.undo(), 1);
        Due.is("undo the first year", x.undo(), 0);
        Due.is("off", x.now(1), 0);
        Due.is("no more", x.undo(), -3);
    }

    private static void undoOfWhatFell() {
        LevelGone x = new LevelGone();
        for (int i = 0; i < 4; i++) {
            x.build(1, 3, 0);
        }
        Due.is("a fifth SHED", x.build(1, 3, 0), 0);
        Due.is("a church where they were", x.build(1, 2, 0), 1);
        Due.is("undo", x.undo(), 0);
        Due.is("nothing", x.plot(1, 0), 0);
        Due.is("undo", x.undo(), 0);
        Due.is("all four stand", x.plot(1, 2), 4);
        Due.is("each a SHED", x.of(1, 0, 0), 3);
    }

    private static void undoEightAtMost() {
        LevelGone x = new LevelGone();
        for (int i = 1; i <= 12; i++) {
            x.year(i);
            Due.is("undos", x.count(5), Math.min(i, 8));
        }
        for (int i = 12; i > 4; i--) {
            Due.is("undo " + i, x.undo(), i * (i - 1) / 2);
        }
        Due.is("no ninth", x.undo(), -3);
        Due.is("the year", x.now(2), 10);
        x.year(7);
        Due.is("undo anew", x.undo(), 10);
    }

    private static LevelGone besideFullPlot() {
        LevelGone x = Towns.drifted(3);
        for (int i = 1; i <= 5; i++) {
            Due.is("PLAIN " + i, x.build(0, 0, 0), i);
        }
        Due.is("TOP of five", x.plot(0, 1), 2);
        return x;
    }

    private static void nowOfPlot() {
        LevelGone x = Towns.of(4, -5);
        Due.is("KIND", x.now(0), 4);
        Due.is("PULL", x.now(3), -5);
        x.year(1);
        Due.is("OFF", x.now(1), -3);
        Due.is("YEAR", x.now(2), 1);
        Due.is("PULL of year 1", x.now(3), 0);
        Due.is("now(-1)", x.now(-1), -100);
        Due.is("now(4)", x.now(4), -100);
        x.build(2, 3, 0);
        Due.is("of: TILT", x.of(2, 0, 1), -3);
        int[][] wrong = {{-1, 0, 0}, {6, 0, 0}, {2, -1, 0}, {2, 1, 0}, {2, 5, 0}, {3, 0, 0}, {2, 0, -1}, {2, 0, 3}};
        for (int[] w : wrong) {
            Due.is("of(" + w[0] + ", " + w[1] + ", " + w[2] + ")", x.of(w[0], w[1], w[2]), -100);
        }
        Due.is("plot: TOP", x.plot(2, 1), -3);
        Due.is("plot: TOP of none", x.plot(3, 1), 0);
        Due.is("plot: TOP of none beside a full one", besideFullPlot().plot(1, 1), 0);
        Due.is("plot(-1, 0)", x.plot(-1, 0), -100);
        Due.is("plot(6, 0)", x.plot(6, 0), -100);
        Due.is("plot(0, -1)", x.plot(0, -1), -100);
        Due.is("plot(0, 3)", x.plot(0, 3), -100);
        Due.is("all counted as BAD", x.status(0), 14);
    }

    public static void main(String[] args) {
        loads();
        weights();
        tilts();
        unlikeWhatIsBelow();
        buildRefused();
        years();
        lastYear();
        undo();
        undoOfWhatFell();
        undoEightAtMost();
        nowOfPlot();
        Due.end();
    }
}
