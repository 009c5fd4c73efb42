/** Towns that tests begin with. */
final class Towns {
    private Towns() {
    }

    static LevelGone of(int kind, int... pulls) {
        LevelGone x = new LevelGone();
        x.town(kind);
        for (int y = 0; y < pulls.length; y++) {
            x.pull(y, pulls[y]);
        }
        return x;
    }

    /** A town of drifting level, so many years old: off by half of them, rounded up. */
    static LevelGone drifted(int years) {
        LevelGone x = of(1);
        if (years > 0) {
            x.year(years);
        }
        return x;
    }

    /** A town with one storey on each plot, tilted as told. */
    static LevelGone tops(int... tops) {
        LevelGone x = of(3);
        for (int p = 0; p < tops.length; p++) {
            turnTo(x, tops[p]);
            x.build(p, 3, 0);
        }
        return x;
    }

    /** Years go by until a loving level is off by so much: two nearer each year. */
    static void turnTo(LevelGone x, int off) {
        for (int y = 0; y < 6; y++) {
            x.pull(y, off);
        }
        x.year(9);
    }

    static void typeIn(LevelGone x, String text) {
        x.clear();
        for (int i = 0; i < text.length(); i++) {
            x.type(text.charAt(i));
        }
    }

    static int read(LevelGone x, String text) {
        typeIn(x, text);
        return x.read();
    }

    /** A town that holds some of all, full of nothing: three storeys on each plot, both images kept. */
    static LevelGone rich() {
        LevelGone x = of(3, 2, -9, 8, 1, 0, -1);
        x.member(4);
        x.build(2, 1, 0);
        x.image(0);
        x.town(4);
        x.pull(1, -7);
        x.year(1);
        x.build(0, 2, 1);
        for (int p = 0; p < 6; p++) {
            for (int height = x.plot(p, 0); height < 3; height++) {
                x.build(p, 5, p % 2);
            }
        }
        for (int view = 1; view >= -1; view--) {
            x.member(view);
        }
        x.note(1, 2, 3, 4);
        x.note(-9, -8, 99, -7);
        x.mark(9, -1, -2, 30, 1);
        x.mark(0, 1, 2, 3, 0);
        x.year(2);
        x.image(1);
        x.year(3);
        x.year(1);
        x.chance(1, 3, 5);
        typeIn(x, "town 1;years 3;build 2 0;");
        x.town(-1);
        return x;
    }

    /** A town that is full of all: members, notes, marks, storeys, what may be undone, bytes; an image is kept. */
    static LevelGone full() {
        int[] kinds = {0, 2, 0, 1, 3};
        LevelGone x = of(2, 3, -3, 9, -9, 0, 1);
        for (int i = 0; i < 5; i++) {
            x.member(i - 2);
        }
        for (int i = 0; i < 6; i++) {
            x.note(i, i, i, i);
            x.mark(i, 1, 0, 4, 1);
        }
        for (int i = 0; i < 30; i++) {
            x.build(i % 6, kinds[i / 6], 1);
        }
        x.image(1);
        x.year(99);
        x.chance(1, 5, 5);
        typeIn(x, "town 1;years 3;build 2 0;");
        for (int i = 25; i < 150; i++) {
            x.type(' ');
        }
        return x;
    }
}
