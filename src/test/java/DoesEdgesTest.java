import java.util.Arrays;

/** Promises 14 to 22 at their bounds: what will be, what rolls, steps, where to build, votes. */
public final class DoesEdgesTest {
    private static LevelGone offBy(int off) {
        LevelGone x = Towns.of(3);
        Towns.turnTo(x, off);
        return x;
    }

    /** THEN "behind m (0 .. 99) YEARS": 0 is now; 99 is as 99 years that go by. */
    private static void then() {
        LevelGone x = Towns.of(4, 5, -9, 3, 9, -2, 7);
        LevelGone y = Towns.of(4, 5, -9, 3, 9, -2, 7);
        x.year(7);
        y.year(7);
        Due.is("then(0)", x.then(0), x.now(1));
        for (int m = 1; m <= 99; m++) {
            Due.is("then(" + m + ")", x.then(m), y.year(1));
        }
        Due.is("it may be below 0", offBy(-9).then(0), -9);
        Due.is("and above", offBy(9).then(99), 9);
    }

    /** WHEN "OFF by x (1 .. 9) or more (either way) first": now, behind one year, or none. */
    private static void when() {
        for (int off = -9; off <= 9; off++) {
            LevelGone x = offBy(off);
            for (int by = 1; by <= 9; by++) {
                Due.is("when(" + by + ") off by " + off + ", as it stays", x.when(by), Math.abs(off) >= by ? 0 : -1);
            }
            Due.is("none is no status", x.status(0) + x.status(1) + x.status(2), 0);
        }
        LevelGone up = Towns.of(2, 9, 9, 9, 9, 9, 9);
        LevelGone down = Towns.of(2, -9, -9, -9, -9, -9, -9);
        for (int by = 1; by <= 9; by++) {
            Due.is("when(" + by + ") up", up.when(by), by);
            Due.is("when(" + by + ") down", down.when(by), by);
        }
        // it comes and goes: the first is told
        LevelGone first = Towns.of(3, 2, 0, -9, 0, 9, 0);
        Due.is("by 2", first.when(2), 1);
        Due.is("by 3: never", first.when(3), -1);
        Seen.asked("when: none", Towns::full, t -> t.when(9), -1);
    }

    /** WHEN "(0 .. 99)": two farther in six years, the longest way there is (searched): 99 no town can show. */
    private static void whenLate() {
        LevelGone x = Towns.of(2, -8, -8, -8, -8, -8, -8);
        x.year(12);
        int[] pulls = {8, -9, 8, -9, 8, 9};
        for (int y = 0; y < 6; y++) {
            x.pull(y, pulls[y]);
        }
        Due.is("off", x.now(1), -8);
        Due.is("year 12: as 0", x.now(3), 8);
        Due.is("when(9)", x.when(9), 54);
        Due.is("then it is", x.then(54), 9);
        for (int m = 0; m < 54; m++) {
            Due.that("not yet behind " + m, Math.abs(x.then(m)) < 9);
        }
        x.year(1);
        Due.is("when(9) behind one more", x.when(9), 53);
        x.pull(5, 8);
        Due.is("never", x.when(9), -1);
    }

    private static void rolling(int[] tops, int... where) {
        LevelGone x = Towns.tops(tops);
        for (int p = 0; p < 6; p++) {
            Due.is("rolls(" + p + ") of " + Arrays.toString(tops), x.rolls(p), where[p]);
        }
    }

    /** "to the next one of a greater number, if TOP is above 0, of a lesser one, if below": 1, 0, -1. */
    private static void rollsByOne() {
        rolling(new int[] {0, 1, 0, 0, -1, 0}, 0, 2, 2, 3, 3, 5);
        rolling(new int[] {0, 9, 0, 0, -9, 0}, 0, 2, 2, 3, 3, 5);
    }

    /** "it stays at the town's end": where it would roll on, and only there. */
    private static void rollsAtTheEnds() {
        rolling(new int[] {-1, 0, 0, 0, 0, 1}, 0, 1, 2, 3, 4, 5);
        rolling(new int[] {1, 0, 0, 0, 0, -1}, 1, 1, 2, 3, 4, 4);
        rolling(new int[] {1, 1, 1, 1, 1, 1}, 5, 5, 5, 5, 5, 5);
        rolling(new int[] {-1, -1, -1, -1, -1, -1}, 0, 0, 0, 0, 0, 0);
        rolling(new int[] {1, 1, 1, 1, 1, 0}, 5, 5, 5, 5, 5, 5);
        rolling(new int[] {0, -1, -1, -1, -1, -1}, 0, 0, 0, 0, 0, 0);
    }

    /** "or where it would go back to the PLOT it came from": there it stays, not where it came from. */
    private static void rollsBack() {
        rolling(new int[] {1, -1, 0, 0, 0, 0}, 1, 0, 2, 3, 4, 5);
        rolling(new int[] {0, 0, 0, 0, 1, -1}, 0, 1, 2, 3, 5, 4);
        rolling(new int[] {1, 1, 1, 1, 1, -1}, 5, 5, 5, 5, 5, 4);
        rolling(new int[] {1, -1, -1, -1, -1, -1}, 1, 0, 0, 0, 0, 0);
        rolling(new int[] {0, 1, 1, -1, -1, 0}, 0, 3, 3, 2, 2, 5);
    }

    /** "LEVEL ones: PLOTS (bits) where TOP is 0": -1, 0, 1; one of nothing is. */
    private static void level() {
        for (int p = 0; p < 6; p++) {
            for (int top = -1; top <= 1; top++) {
                int[] tops = new int[6];
                tops[p] = top;
                Due.is("TOP of " + p + " is " + top, Towns.tops(tops).lies(0), top == 0 ? 63 : 63 - (1 << p));
            }
        }
        Due.is("all of nothing", new LevelGone().lies(0), 63);
        Due.is("none", Towns.tops(1, 1, 1, -1, -1, -1).lies(0), 0);
    }

    /** "joins (bits 0 .. 4) whose TOPS are unlike by 3 or more"; PASS "without such a join". */
    private static void steps() {
        for (int join = 0; join < 5; join++) {
            for (int unlike = -4; unlike <= 4; unlike++) {
                int[] tops = new int[6];
                for (int p = join + 1; p < 6; p++) {
                    tops[p] = unlike;
                }
                LevelGone x = Towns.tops(tops);
                boolean step = unlike <= -3 || unlike >= 3;
                String call = "join " + join + " unlike by " + unlike;
                Due.is(call, x.lies(1), step ? 1 << join : 0);
                Due.is(call + ": pass over it", x.pass(join, join + 1), step ? 0 : 1);
                Due.is(call + ": pass back", x.pass(join + 1, join), step ? 0 : 1);
                Due.is(call + ": pass from end to end", x.pass(0, 5), step ? 0 : 1);
                Due.is(call + ": pass back", x.pass(5, 0), step ? 0 : 1);
                Due.is(call + ": pass ahead of it", x.pass(0, join), 1);
                Due.is(call + ": pass behind it", x.pass(5, join + 1), 1);
                Due.is(call + ": where it is", x.pass(join, join), 1);
            }
        }
        LevelGone across = Towns.tops(2, -1, 1, -2, 9, -9);
        Due.is("either way of 0", across.lies(1), 1 + 4 + 8 + 16);
        Due.is("all", Towns.tops(0, 3, 0, 3, 0, 3).lies(1), 31);
    }

    private static void badOrder(int kinds) {
        Seen.refused("order(" + kinds + ", -1)", LevelGone::new, t -> t.order(kinds, -1), -10, Seen.BAD);
        Seen.refused("order(" + kinds + ", 0)", LevelGone::new, t -> t.order(kinds, 0), -10, Seen.BAD);
    }

    /** "1 to 4 KINDS are told by a number (each by one figure, 1 .. 6)"; "BAD: -10". */
    private static void orderNumbers() {
        for (int figures : new int[] {1, 6, 11, 16, 61, 66, 111, 666, 161, 1111, 6666, 1661, 6116}) {
            int count = Integer.toString(figures).length();
            LevelGone x = new LevelGone();
            Due.is("order(" + figures + ", -1)", x.order(figures, -1), count);
            Due.that("order(" + figures + ") tells its last", x.order(figures, count - 1) >= 0);
            Due.is("order(" + figures + ") beyond", x.order(figures, count), -5);
            Due.is("none is a status", x.status(0) + x.status(1) + x.status(2), 0);
        }
        for (String figures : new String[] {"1", "6", "11", "66", "111", "666", "1111", "6666"}) {
            for (int place = 0; place < figures.length(); place++) {
                for (char wrong : "0789".toCharArray()) {
                    if (wrong != '0' || place > 0) {
                        badOrder(Integer.parseInt(figures.substring(0, place) + wrong + figures.substring(place + 1)));
                    }
                }
            }
        }
        int[] wrong = {0, 10000, 10001, 11111, 66666, 111111, 1111111111, -1, -6, -11, -1111, Integer.MAX_VALUE,
            Integer.MIN_VALUE};
        for (int kinds : wrong) {
            badOrder(kinds);
        }
    }

    /** Promise 20: "how many (i = NONE), the PLOT of the i-th one", "-5: not so many", "i below -1, too". */
    private static void orderPlaces() {
        LevelGone x = new LevelGone();
        x.build(0, 3, 0);
        // TOWERS: the SHED bears none, a TOWER one more
        int[] plots = {1, 1, 2, 2};
        for (int count = 1; count <= 4; count++) {
            int kinds = Integer.parseInt("5".repeat(count));
            Due.is("how many of " + count, x.order(kinds, -1), 1 + count);
            for (int i = 0; i < count; i++) {
                Due.is("the PLOT of " + i + " of " + count, x.order(kinds, i), plots[i]);
            }
            for (int i : new int[] {count, count + 1, 5, 6, 100, Integer.MAX_VALUE}) {
                Due.is("not so many", x.order(kinds, i), -5);
                Seen.asked("not so many", Towns::rich, t -> t.order(kinds, i), -5);
            }
            for (int i : new int[] {-2, -3, -100, Integer.MIN_VALUE}) {
                Seen.refused("i below -1", Towns::rich, t -> t.order(kinds, i), -10, Seen.BAD);
                Seen.refused("where there is none, too", Towns::full, t -> t.order(kinds, i), -10, Seen.BAD);
            }
        }
    }

    private static LevelGone storeys(int n) {
        LevelGone x = new LevelGone();
        for (int i = 0; i < n; i++) {
            x.build(i / 5, 0, 0);
        }
        return x;
    }

    /** "each on a PLOT (not one that has 5)"; "none: all PLOTS have 5 at one's turn, whatever one chose". */
    private static void orderOnFullPlots() {
        for (int free = 0; free <= 4; free++) {
            int stand = 30 - free;
            int kinds = 0;
            for (int count = 1; count <= 4; count++) {
                kinds = 10 * kinds + 1;
                int figures = kinds;
                int want = count <= free ? stand + count : -1;
                Due.is(count + " on " + free, storeys(stand).order(kinds, -1), want);
                if (count > free) {
                    for (int i : new int[] {-1, 0, count - 1, count, Integer.MAX_VALUE}) {
                        Seen.asked("none, whatever i is", () -> storeys(stand), t -> t.order(figures, i), -1);
                    }
                } else {
                    Due.is("the last PLOT", storeys(stand).order(kinds, count - 1), 5);
                    Due.is("not so many", storeys(stand).order(kinds, count), -5);
                }
            }
        }
        LevelGone four = storeys(4);
        Due.is("a fifth on PLOT 0", four.order(11, 0), 0);
        Due.is("no sixth there", four.order(11, 1), 1);
        LevelGone five = storeys(5);
        Due.is("none there", five.order(1, 0), 1);
    }

    /** "none": not where what falls leaves room for the next. */
    private static void orderWhereItFalls() {
        Due.is("two PLAIN ones on one place: no room", storeys(29).order(11, -1), -1);
        LevelGone sheds = new LevelGone();
        for (int i = 0; i < 25; i++) {
            sheds.build(i / 5, 0, 0);
        }
        for (int i = 0; i < 4; i++) {
            sheds.build(5, 3, 0);
        }
        // the first makes all four SHEDS fall; the others have room then
        Due.is("25 and two", sheds.order(111, -1), 27);
        Due.is("on the last PLOT", sheds.order(111, 0), 5);
        Due.is("on the last PLOT", sheds.order(111, 2), 5);
        Due.is("25", sheds.order(1, -1), 25);
    }

    /** "one is built each YEAR from now on (a YEAR goes by behind each but the last)". */
    private static void orderYears() {
        LevelGone x = Towns.of(2, 9, 9, 9, 9, 9, 9);
        // CHURCHES by 0, 1, 2, 3: each stands on the one ahead of it alone
        Due.is("four on one another", x.order(3333, -1), 4);
        for (int i = 0; i < 4; i++) {
            Due.is("on PLOT 0", x.order(3333, i), 0);
        }
        // PULLS of the YEARS then: PLAIN, PLAIN, CHURCH by 0, 2, 4 or by 0, 2, 1
        Due.is("up and up", Towns.of(3, 9, 9).order(113, -1), 2);
        Due.is("up and down", Towns.of(3, 9, 1).order(113, -1), 3);
        // HUTS by 5, 6, 7, 8: two stand
        x.year(5);
        Due.is("by 5, 6", x.order(66, -1), 2);
        Due.is("by 5, 6, 7", x.order(666, -1), 2);
        Due.is("by 5, 6, 7, 8", x.order(6666, -1), 2);
        x.year(1);
        Due.is("by 6", x.order(6, -1), 1);
        Due.is("by 6, 7", x.order(66, -1), 1);
        x.year(1);
        Due.is("by 7", x.order(6, -1), 0);
        Due.is("in the first way it falls on PLOT 0", x.order(6, 0), 0);
    }

    /** "in the first such way (rising)": of ways alike the one of lesser PLOTS, the first ones first. */
    private static void orderFirstWay() {
        LevelGone x = new LevelGone();
        // TOWER, BRICK, BRICK: a TOWER bears one BRICK, not two
        int[] plots = {0, 0, 1};
        for (int i = 0; i < 3; i++) {
            Due.is("TOWER, BRICK, BRICK: " + i, x.order(522, i), plots[i]);
        }
        Due.is("three", x.order(522, -1), 3);
        // SHED, then TOWER: not on it
        Due.is("SHED", x.order(45, 0), 0);
        Due.is("TOWER", x.order(45, 1), 1);
        // TOWER, then SHED on it
        Due.is("SHED on TOWER", x.order(54, 1), 0);
    }

    /** "on a PLOT of one's choice: so that there are most STOREYS in all then": not most at each turn. */
    private static void orderMost() {
        LevelGone place = Towns.of(2, 9, 9);
        place.year(1);
        place.build(0, 0, 0);
        // SHED by 1, TOWER by 2: the TOWER stands on PLOT 0 alone, and not on the SHED
        Due.is("the place is kept for the TOWER", place.order(45, -1), 3);
        Due.is("SHED", place.order(45, 0), 1);
        Due.is("TOWER", place.order(45, 1), 0);
        LevelGone fall = Towns.of(2, 9, 9, 2, 2, 2, 2);
        fall.year(2);
        fall.build(0, 0, 0);
        // all by 2, and stand on PLOT 0 alone: the TOWER, then one CHURCH, or three CHURCHES
        Due.is("TOWER and CHURCH", fall.order(53, -1), 3);
        Due.is("TOWER and one of two", fall.order(533, -1), 3);
        Due.is("it stands", fall.order(533, 0), 0);
        Due.is("the TOWER falls, three CHURCHES stand", fall.order(5333, -1), 4);
        int[] plots = {1, 0, 0, 0};
        for (int i = 0; i < 4; i++) {
            Due.is("TOWER, CHURCHES: " + i, fall.order(5333, i), plots[i]);
        }
        orderMostLater();
    }

    /** The same where the choice is the second's or the third's: PLAIN ones and SHED by 1, the TOWER by 2. */
    private static void orderMostLater() {
        LevelGone second = Towns.of(2, 9, 1, 9);
        second.year(1);
        int[] plots = {0, 1, 0};
        for (int i = 0; i < 3; i++) {
            Due.is("PLAIN, SHED, TOWER: " + i, second.order(145, i), plots[i]);
        }
        Due.is("all three stand", second.order(145, -1), 3);
        LevelGone third = Towns.of(2, 9, 1, 1, 9);
        third.year(1);
        int[] plotsOfFour = {0, 0, 1, 0};
        for (int i = 0; i < 4; i++) {
            Due.is("PLAIN, PLAIN, SHED, TOWER: " + i, third.order(1145, i), plotsOfFour[i]);
        }
        Due.is("all four stand", third.order(1145, -1), 4);
    }

    /** "each on a PLOT of one's choice": each of 0 to 5, where a CHURCH by 2 stands on it alone. */
    private static void orderOnEachPlot() {
        for (int p = 0; p <= 5; p++) {
            LevelGone x = Towns.of(2, 9, 9, 2);
            x.year(2);
            x.build(p, 0, 0);
            Due.is("on PLOT " + p, x.order(3, 0), p);
            Due.is("the second on PLOT " + p, x.order(33, 1), p);
            Due.is("three", x.order(33, -1), 3);
        }
    }

    private static LevelGone council(int off, int... views) {
        LevelGone x = offBy(off);
        for (int view : views) {
            x.member(view);
        }
        return x;
    }

    /** "one votes YES, if VIEW and what THE LEVEL is OFF by together are 1 or more": 0, 1. */
    private static void votes() {
        for (int off = -9; off <= 9; off++) {
            for (int view = -9; view <= 9; view++) {
                LevelGone x = council(off, view);
                int yes = view + off >= 1 ? 1 : 0;
                int otherwise = view >= 1 ? 1 : 0;
                String call = "VIEW " + view + ", off by " + off;
                Due.is(call + ": YES", x.council(0), yes);
                Due.is(call + ": CARRIED", x.council(1), yes);
                Due.is(call + ": SWAYED", x.council(2), yes == otherwise ? 0 : 1);
                Due.is(call + ": POWER of one alone", x.power(0), 19);
            }
        }
    }

    /** "CARRIED (more than half of them)": of 0 to 5 MEMBERS, by 0 to as many YES. */
    private static void carried() {
        int[] needed = {1, 1, 2, 2, 3, 3};
        for (int members = 0; members <= 5; members++) {
            for (int yes = 0; yes <= members; yes++) {
                LevelGone x = new LevelGone();
                for (int m = 0; m < members; m++) {
                    x.member(m < yes ? 1 : 0);
                }
                Due.is(yes + " YES of " + members, x.council(0), (1 << yes) - 1);
                Due.is(yes + " of " + members, x.council(1), yes >= needed[members] ? 1 : 0);
                Due.is("none SWAYED by 0", x.council(2), 0);
            }
        }
    }

    /** "for how many of the 19 ways": the other MEMBER of two votes YES in 0 to 18 of them. */
    private static void power() {
        for (int view = -9; view <= 9; view++) {
            LevelGone x = council(3, view, 5);
            // VIEW v votes YES by 1 - v to 9; of two both are needed
            Due.is("POWER beside VIEW " + view, x.power(1), 9 + view);
            Due.is("POWER of VIEW " + view, x.power(0), 14);
            Due.is("power(2) of two", x.power(2), -2);
        }
        LevelGone three = council(-4, 9, -9, 1);
        // the two others are unlike in 18 ways: VIEW 9 votes YES but by -9, VIEW -9 never
        Due.is("POWER of the third", three.power(2), 18);
        Due.is("POWER of none", new LevelGone().power(0), -2);
        LevelGone five = council(0, 9, 9, 9, 9, 9);
        for (int m = 0; m < 5; m++) {
            Due.is("five alike: never two and two", five.power(m), 0);
        }
        Due.is("power(5) of five", five.power(5), -2);
        Seen.refused("power(4) of three", Towns::rich, t -> t.power(4), -2, Seen.BAD);
        Seen.refused("power(3) of three", Towns::rich, t -> t.power(3), -2, Seen.BAD);
    }

    public static void main(String[] args) {
        then();
        when();
        whenLate();
        rollsByOne();
        rollsAtTheEnds();
        rollsBack();
        level();
        steps();
        orderNumbers();
        orderPlaces();
        orderOnFullPlots();
        orderWhereItFalls();
        orderYears();
        orderFirstWay();
        orderMost();
        orderOnEachPlot();
        votes();
        carried();
        power();
        Due.end();
    }
}
