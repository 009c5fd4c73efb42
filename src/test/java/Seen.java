import java.util.function.Supplier;

/** What a call changes, told by two towns that are made alike, of which one alone is called. */
final class Seen {
    /** Reasons that STATUS tells. */
    static final int BAD = 0, NO = 1, FULL = 2, NONE = -1;

    /** A call; all numbers it answers are told as long. */
    interface Call {
        long on(LevelGone x);
    }

    private Seen() {
    }

    /** The call is refused with the answer; STATUS counts one more of its reason; nothing else is changed. */
    static void refused(String name, Supplier<LevelGone> made, Call call, long answer, int reason) {
        unchanged(name, made, call, answer, reason);
    }

    /** The call is not refused: it counts nowhere in STATUS, and changes nothing. */
    static void asked(String name, Supplier<LevelGone> made, Call call, long answer) {
        unchanged(name, made, call, answer, NONE);
    }

    private static void unchanged(String name, Supplier<LevelGone> made, Call call, long answer, int reason) {
        LevelGone x = made.get();
        int[] before = statuses(x);
        Due.is(name, call.on(x), answer);
        counted(name, x, before, reason);
        Due.is(name + ": all else that can be seen", of(x), of(made.get()));
    }

    /** Behind a call STATUS counts one more of the reason told, and no other. */
    static void counted(String name, LevelGone x, int[] before, int reason) {
        int[] behind = statuses(x);
        for (int what = 0; what <= 2; what++) {
            Due.is(name + ": status(" + what + ")", behind[what], before[what] + (what == reason ? 1 : 0));
        }
    }

    static int[] statuses(LevelGone x) {
        return new int[] {x.status(0), x.status(1), x.status(2)};
    }

    /** All that can be seen of a town but STATUS, told by some 80 calls that use it up. */
    static long of(LevelGone x) {
        long h = 31 * x.now(3) + x.then(1);
        h = undone(x, h);
        for (int i = 0; i <= 1; i++) {
            h = 31 * h + x.from(i);
            h = undone(x, h);
        }
        h = 31 * h + x.read();
        h = undone(x, h);
        return 31 * h + x.clear();
    }

    private static long undone(LevelGone x, long before) {
        long h = before;
        for (int i = 0; i <= 8; i++) {
            h = 31 * h + x.digest();
            h = 31 * h + x.undo();
        }
        return h;
    }
}
