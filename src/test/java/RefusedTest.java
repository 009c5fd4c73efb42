import java.lang.reflect.InvocationTargetException;
import java.lang.reflect.Method;
import java.lang.reflect.Modifier;
import java.util.Arrays;
import java.util.Comparator;

/** What is refused changes nothing but STATUS; and no call throws, whatever its numbers are. */
public final class RefusedTest {
    private static final int[] EDGES = {
        Integer.MIN_VALUE, Integer.MIN_VALUE + 1, -1000000, -101, -100, -10, -9, -2, -1, 0, 1, 5, 6, 9, 10, 30, 31, 60,
        61, 99, 100, 127, 128, 999999, 1000000, Integer.MAX_VALUE - 1, Integer.MAX_VALUE};

    /** Two towns that are alike in all, full of what may be full. */
    private static LevelGone fullTown() {
        LevelGone x = Towns.of(3, 2, -9, 8, 1, 0, -1);
        x.build(2, 1, 0);
        x.image(1);
        for (int i = 0; i < 5; i++) {
            x.member(i - 3);
        }
        for (int i = 0; i < 6; i++) {
            x.note(0, i, 1, 0);
            x.mark(i, 1, 0, 4, 1);
        }
        for (int i = 0; i < 5; i++) {
            x.build(0, 0, 1);
        }
        x.year(2);
        x.build(1, 3, 0);
        x.chance(1, 3, 5);
        Towns.typeIn(x, "town 1;years 3;");
        for (int i = 0; i < 135; i++) {
            x.type(' ');
        }
        return x;
    }

    /** All that can be seen of a town, told by using it up. */
    private static long seen(LevelGone x) {
        long h = 7;
        for (int turn = 0; turn < 3; turn++) {
            for (int i = 0; i <= 8; i++) {
                h = 31 * h + x.digest();
                h = 31 * h + x.is() + x.watch() + x.game() + x.council(0) + x.order(1234, -1) + x.lies(0);
                for (int p = 0; p < 6; p++) {
                    h = 31 * h + x.plot(p, 2) + 100 * x.kinds(p) + x.then(p);
                }
                h = 31 * h + x.undo();
            }
            h = 31 * h + (turn == 0 ? x.from(1) : x.read());
        }
        return h;
    }

    private interface Call {
        long on(LevelGone x);
    }

    /** The call is refused with the answer; STATUS counts one more of its reason, and nothing else is changed. */
    private static void refused(String name, LevelGone x, LevelGone twin, Call call, long answer, int reason) {
        int[] before = {x.status(0), x.status(1), x.status(2)};
        long digest = x.digest();
        Due.is(name, call.on(x), answer);
        Due.is(name + " changes no digest", x.digest(), digest);
        for (int what = 0; what <= 2; what++) {
            Due.is(name + ", status " + what, x.status(what), before[what] + (what == reason ? 1 : 0));
        }
        Due.is(name + ": twin's digest", twin.digest(), digest);
    }

    private static void refusedAsFull(LevelGone x, LevelGone twin) {
        refused("member", x, twin, t -> t.member(1), -4, 2);
        refused("note", x, twin, t -> t.note(1, 1, 1, 1), -4, 2);
        refused("mark", x, twin, t -> t.mark(1, 1, 1, 1, 1), -4, 2);
        refused("build", x, twin, t -> t.build(0, 3, 1), -4, 2);
        refused("type", x, twin, t -> t.type('x'), -4, 2);
    }

    private static void refusedAsBad(LevelGone x, LevelGone twin) {
        refused("town", x, twin, t -> t.town(6), -2, 0);
        refused("pull: y", x, twin, t -> t.pull(6, 1), -100, 0);
        refused("pull: p", x, twin, t -> t.pull(0, 10), -100, 0);
        refused("member", x, twin, t -> t.member(10), -2, 0);
        refused("type", x, twin, t -> t.type(128), -2, 0);
        refused("build", x, twin, t -> t.build(0, 3, 2), -2, 0);
        refused("year", x, twin, t -> t.year(100), -100, 0);
        refused("now", x, twin, t -> t.now(4), -100, 0);
        refused("of", x, twin, t -> t.of(0, 5, 0), -100, 0);
        refused("plot", x, twin, t -> t.plot(0, 3), -100, 0);
        refused("then", x, twin, t -> t.then(100), -100, 0);
        refused("when", x, twin, t -> t.when(10), -2, 0);
        refused("fits", x, twin, t -> t.fits(0, 0, 2), -2, 0);
        refused("rolls", x, twin, t -> t.rolls(6), -2, 0);
        refused("lies", x, twin, t -> t.lies(2), -2, 0);
        refused("pass", x, twin, t -> t.pass(0, 6), -2, 0);
        refused("order", x, twin, t -> t.order(70, 0), -10, 0);
        refused("council", x, twin, t -> t.council(3), -2, 0);
        refused("power", x, twin, t -> t.power(5), -2, 0);
        refused("built", x, twin, t -> t.built(0, 10), -2, 0);
        refused("note", x, twin, t -> t.note(0, 0, 0, 10), -2, 0);
        refused("mark", x, twin, t -> t.mark(0, 0, 0, 31, 0), -2, 0);
        refused("forget", x, twin, t -> t.forget(2), -2, 0);
        refused("kinds", x, twin, t -> t.kinds(10), -2, 0);
        refused("tries", x, twin, t -> t.tries(10), -2, 0);
        refused("chance", x, twin, t -> t.chance(1, 0, 11), -2, 0);
        refused("times", x, twin, t -> t.times(0, 61), -2, 0);
        refused("part", x, twin, t -> t.part(2), -2, 0);
        refused("image", x, twin, t -> t.image(2), -2, 0);
        refused("from", x, twin, t -> t.from(2), -2, 0);
        refused("status", x, twin, t -> t.status(3), -1, 0);
        refused("count", x, twin, t -> t.count(7), -2, 0);
    }

    private static void refusedAsNo(LevelGone x, LevelGone twin) {
        refused("from: none kept", x, twin, t -> t.from(0), -3, 1);
        LevelGone one = Towns.of(2);
        refused("undo: none may be", one, Towns.of(2), LevelGone::undo, -3, 1);
    }

    /** Answers that are told as none of BAD, NO, FULL. */
    private static void notRefused(LevelGone x, LevelGone twin) {
        refused("fits: NONE", x, twin, t -> t.fits(0, 0, 0), -1, -1);
        refused("when: NONE", x, twin, t -> t.when(9), -1, -1);
        refused("order: not so many", x, twin, t -> t.order(1, 1), -5, -1);
        LevelGone one = Towns.of(2);
        Towns.typeIn(one, "town");
        LevelGone other = Towns.of(2);
        Towns.typeIn(other, "town");
        refused("read: a FAULT", one, other, LevelGone::read, -14, -1);
    }

    private static void twins() {
        LevelGone x = fullTown();
        LevelGone twin = fullTown();
        refusedAsFull(x, twin);
        refusedAsBad(x, twin);
        refusedAsNo(x, twin);
        notRefused(x, twin);
        Due.is("a byte of a full TEXT", x.type(0), -4);
        Due.is("all that can be seen", seen(x), seen(twin));
    }

    private static void callByEdges(LevelGone x, Method method, int first) throws IllegalAccessException {
        Object[] arguments = new Object[method.getParameterCount()];
        for (int start = 0; start < EDGES.length; start++) {
            for (int i = 0; i < arguments.length; i++) {
                arguments[i] = EDGES[(first + start * (1 + 2 * i)) % EDGES.length];
            }
            try {
                method.invoke(x, arguments);
            } catch (InvocationTargetException e) {
                Due.that(method.getName() + Arrays.toString(arguments) + " threw " + e.getCause(), false);
            }
        }
    }

    private static void edges() throws IllegalAccessException {
        Method[] methods = Arrays.stream(LevelGone.class.getDeclaredMethods())
                .filter(m -> Modifier.isPublic(m.getModifiers()))
                .sorted(Comparator.comparing(Method::getName)).toArray(Method[]::new);
        LevelGone[] towns = {new LevelGone(), fullTown()};
        for (LevelGone x : towns) {
            for (int first = 0; first < EDGES.length; first++) {
                for (Method method : methods) {
                    callByEdges(x, method, first);
                }
            }
        }
        Due.that("no call threw", true);
    }

    public static void main(String[] args) throws IllegalAccessException {
        twins();
        edges();
        Due.end();
    }
}
