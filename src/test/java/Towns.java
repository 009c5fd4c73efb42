/** Towns that tests begin with. */
final class Towns {
    private Towns() {
    }

    static LevelGone of(int kind, int... pulls) {
        LevelGone x = new LevelGone();
        x.town(kind);
        for (int y = 0; y < pulls.length; y++) {
            x.pull(y, pulls[y]);
        }
        return x;
    }

    /** A town of drifting level, so many years old: off by half of them, rounded up. */
    static LevelGone drifted(int years) {
        LevelGone x = of(1);
        if (years > 0) {
            x.year(years);
        }
        return x;
    }

    static void typeIn(LevelGone x, String text) {
        x.clear();
        for (int i = 0; i < text.length(); i++) {
            x.type(text.charAt(i));
        }
    }

    static int read(LevelGone x, String text) {
        typeIn(x, text);
        return x.read();
    }
}
