import java.util.function.Supplier;

/**
 * Each number that a call takes: the least and the greatest that are as told, all between (or those beside the
 * bounds), the first below and above that are not, the least and the greatest int. What is not as told is BAD:
 * it changes nothing but STATUS, where it counts once; what is as told counts nowhere in STATUS.
 */
public final class ToldNumbersTest {
    private static final int MANY = 200;

    private interface Call {
        long on(LevelGone x, int[] a);
    }

    /** Bounds are the least and the most of each number in turn; the usual numbers are as told. */
    private static void told(String name, long refused, Call call, int[] usual, int... bounds) {
        for (int i = 0; i < usual.length; i++) {
            int least = bounds[2 * i];
            int most = bounds[2 * i + 1];
            taken(name, refused, call, usual, i, least, most);
            notTaken(name, refused, call, usual, i, Integer.MIN_VALUE);
            notTaken(name, refused, call, usual, i, Integer.MIN_VALUE + 1);
            notTaken(name, refused, call, usual, i, least - 1);
            if (most < Integer.MAX_VALUE) {
                notTaken(name, refused, call, usual, i, most + 1);
                notTaken(name, refused, call, usual, i, Integer.MAX_VALUE - 1);
                notTaken(name, refused, call, usual, i, Integer.MAX_VALUE);
            }
        }
        noneTaken(name, refused, call, bounds);
    }

    private static void taken(String name, long refused, Call call, int[] usual, int i, int least, int most) {
        for (int value = least; value - least <= MANY && value <= most && value >= least; value++) {
            takes(name, refused, call, usual, i, value);
        }
        takes(name, refused, call, usual, i, most - 1);
        takes(name, refused, call, usual, i, most);
    }

    private static int[] with(int[] usual, int i, int value) {
        int[] numbers = usual.clone();
        numbers[i] = value;
        return numbers;
    }

    private static String told(String name, int[] numbers) {
        return name + java.util.Arrays.toString(numbers);
    }

    private static void takes(String name, long refused, Call call, int[] usual, int i, int value) {
        int[] numbers = with(usual, i, value);
        LevelGone x = Towns.rich();
        int[] before = Seen.statuses(x);
        Due.that(told(name, numbers) + " is not refused", call.on(x, numbers) != refused);
        Seen.counted(told(name, numbers), x, before, Seen.NONE);
    }

    private static void notTaken(String name, long refused, Call call, int[] usual, int i, int value) {
        int[] numbers = with(usual, i, value);
        Supplier<LevelGone> made = Towns::rich;
        Seen.refused(told(name, numbers), made, x -> call.on(x, numbers), refused, Seen.BAD);
    }

    /** All numbers below or all above what is told: refused, and counted once. */
    private static void noneTaken(String name, long refused, Call call, int[] bounds) {
        int[] below = new int[bounds.length / 2];
        int[] above = new int[bounds.length / 2];
        for (int i = 0; i < below.length; i++) {
            below[i] = bounds[2 * i] - 1;
            above[i] = bounds[2 * i + 1] == Integer.MAX_VALUE ? 0 : bounds[2 * i + 1] + 1;
        }
        Seen.refused(told(name, below), Towns::rich, x -> call.on(x, below), refused, Seen.BAD);
        Seen.refused(told(name, above), Towns::rich, x -> call.on(x, above), refused, Seen.BAD);
    }

    private static int[] of(int... numbers) {
        return numbers;
    }

    private static void aTown() {
        told("town", -2, (x, a) -> x.town(a[0]), of(1), 0, 5);
        told("pull", -100, (x, a) -> x.pull(a[0], a[1]), of(3, 1), 0, 5, -9, 9);
        told("member", -2, (x, a) -> x.member(a[0]), of(1), -9, 9);
        told("type", -2, (x, a) -> x.type(a[0]), of(1), 0, 127);
    }

    private static void years() {
        told("build", -2, (x, a) -> x.build(a[0], a[1], a[2]), of(3, 0, 1), 0, 5, 0, 5, 0, 1);
        told("year", -100, (x, a) -> x.year(a[0]), of(1), 1, 99);
        told("now", -100, (x, a) -> x.now(a[0]), of(1), 0, 3);
        told("of", -100, (x, a) -> x.of(a[0], a[1], a[2]), of(3, 0, 1), 0, 5, 0, 2, 0, 2);
        told("plot", -100, (x, a) -> x.plot(a[0], a[1]), of(3, 1), 0, 5, 0, 2);
    }

    private static void whatItDoes() {
        told("then", -100, (x, a) -> x.then(a[0]), of(1), 0, 99);
        told("when", -2, (x, a) -> x.when(a[0]), of(1), 1, 9);
        told("fits", -2, (x, a) -> x.fits(a[0], a[1], a[2]), of(3, 0, 1), 0, 5, 0, 5, 0, 1);
        told("rolls", -2, (x, a) -> x.rolls(a[0]), of(3), 0, 5);
        told("lies", -2, (x, a) -> x.lies(a[0]), of(1), 0, 1);
        told("pass", -2, (x, a) -> x.pass(a[0], a[1]), of(3, 1), 0, 5, 0, 5);
        // of one figure; numbers of more have a test of their own
        told("order", -10, (x, a) -> x.order(a[0], a[1]), of(1, 0), 1, 6, -1, Integer.MAX_VALUE);
        told("council", -2, (x, a) -> x.council(a[0]), of(1), 0, 2);
        told("power", -2, (x, a) -> x.power(a[0]), of(1), 0, 2);
    }

    private static void whatItWas() {
        told("built", -2, (x, a) -> x.built(a[0], a[1]), of(3, 0), 0, 5, -9, 9);
        told("note", -2, (x, a) -> x.note(a[0], a[1], a[2], a[3]), of(3, 1, 2, 0), -9, 9, -9, 9, 0, 99, -9, 9);
        told("mark", -2, (x, a) -> x.mark(a[0], a[1], a[2], a[3], a[4]), of(3, 1, 2, 0, 1),
                0, 9, -9, 9, -9, 9, 0, 30, 0, 1);
        told("forget", -2, (x, a) -> x.forget(a[0]), of(1), 0, 1);
        told("kinds", -2, (x, a) -> x.kinds(a[0]), of(3), 0, 9);
        told("tries", -2, (x, a) -> x.tries(a[0]), of(3), 0, 9);
        told("chance", -2, (x, a) -> x.chance(a[0], a[1], a[2]), of(3, 1, 2), 1, 9, 0, 8, 0, 10);
        told("times", -2, (x, a) -> x.times(a[0], a[1]), of(3, 1), 0, 999999, 0, 60);
    }

    private static void whatThereIs() {
        told("part", -2, (x, a) -> x.part(a[0]), of(1), 0, 1);
        told("image", -2, (x, a) -> x.image(a[0]), of(1), 0, 1);
        told("from", -2, (x, a) -> x.from(a[0]), of(1), 0, 1);
        told("status", -1, (x, a) -> x.status(a[0]), of(1), 0, 2);
        told("count", -2, (x, a) -> x.count(a[0]), of(1), 0, 6);
    }

    public static void main(String[] args) {
        aTown();
        years();
        whatItDoes();
        whatItWas();
        whatThereIs();
        Due.end();
    }
}
