/** Towns that tests begin with. */
final class Towns {
    private Towns() {
    }

    static LevelGone of(int kind, int... pulls) {
        LevelGone x = new LevelGone();
        x.town(kind);
        for (int y = 0; y < pulls.length; y++) {
            x.pull(y, pulls[y]);
        }
        return x;
    }

    /** A town of drifting level, so many years old: off by half of them, rounded up. */
    static LevelGone drifted(int years) {
        LevelGone x = of(1);
        if (years > 0) {
            x.year(years);
        }
        return x;
    }

    /** A town with one storey on each plot, tilted as told. */
    static LevelGone tops(int... tops) {
        LevelGone x = of(3);
        for (int p = 0; p < tops.length; p++) {
            turnTo(x, tops[p]);
            x.build(p, 3, 0);
        }
        return x;
    }

    /** Years go by until a loving level is off by so much: two nearer each year. */
    static void turnTo(LevelGone x, int off) {
        for (int y = 0; y < 6; y++) {
            x.pull(y, off);
        }
        x.year(9);
    }

    static void typeIn(LevelGone x, String text) {
        x.clear();
        for (int i = 0; i < text.length(); i++) {
            x.type(text.charAt(i));
        }
    }

    static int read(LevelGone x, String text) {
        typeIn(x, text);
        return x.read();
    }
}
