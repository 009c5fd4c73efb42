/** Promises 21 and 22: how a council votes, whom the level sways, and what one member can turn. */
public final class CouncilTest {
    private static LevelGone council(int off, int... views) {
        LevelGone x = Towns.of(3);
        Towns.turnTo(x, off);
        for (int view : views) {
            x.member(view);
        }
        return x;
    }

    private static void votes(LevelGone x, int yes, int carried, int swayed) {
        Due.is("YES", x.council(0), yes);
        Due.is("CARRIED", x.council(1), carried);
        Due.is("SWAYED", x.council(2), swayed);
    }

    private static void council() {
        votes(new LevelGone(), 0, 0, 0);
        votes(council(0, 1), 1, 1, 0);
        votes(council(0, 0), 0, 0, 0);
        // of two, one is not more than half
        votes(council(0, 1, 0), 1, 0, 0);
        votes(council(0, 1, 0, 1), 5, 1, 0);
        votes(council(0, 9, -9, 1, 0), 5, 0, 0);
        votes(council(0, 9, -9, 0, 1, -1), 9, 0, 0);
        votes(council(3, 9, -9, 0, -2, -3), 13, 1, 12);
        votes(council(-3, 9, 4, 3, 1, 0), 3, 0, 12);
        votes(council(9, -9, -8, 0, 1, 9), 30, 1, 6);
        votes(council(-9, 9, 9, 9), 0, 0, 7);
        LevelGone x = council(1, 0);
        Due.is("council(-1)", x.council(-1), -2);
        Due.is("council(3)", x.council(3), -2);
    }

    private static void powers(int off, int[] views, int... powers) {
        LevelGone x = council(off, views);
        for (int m = 0; m < powers.length; m++) {
            Due.is("power(" + m + ") of " + java.util.Arrays.toString(views), x.power(m), powers[m]);
        }
        Due.is("power(" + views.length + ")", x.power(views.length), -2);
        Due.is("power(-1)", x.power(-1), -2);
        Due.is("power(MAX)", x.power(Integer.MAX_VALUE), -2);
    }

    private static void power() {
        powers(0, new int[] {});
        // alone: always
        powers(0, new int[] {-9}, 19);
        powers(5, new int[] {4}, 19);
        // of two each needs the other's YES: VIEW 1 votes so by 0 .. 9, VIEW 0 by 1 .. 9
        powers(-2, new int[] {1, 0}, 9, 10);
        // of three it turns where the others are unlike: VIEW 9 votes YES by -8 .. 9, VIEW -9 never
        powers(0, new int[] {9, -9, 0}, 9, 9, 18);
        powers(0, new int[] {0, 0, 0}, 0, 0, 0);
        // five: two of the other four vote YES
        powers(0, new int[] {9, 3, 0, -3, -9}, 3, 3, 6, 3, 3);
    }

    public static void main(String[] args) {
        council();
        power();
        Due.end();
    }
}
