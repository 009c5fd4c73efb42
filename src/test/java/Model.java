import java.math.BigInteger;
import java.util.ArrayList;
import java.util.Arrays;
import java.util.List;
import java.util.regex.Matcher;
import java.util.regex.Pattern;

/**
 * The document once more, word by word and with no thought of cost: what the program's answers are
 * compared with. It shares no code with the program.
 */
public final class Model {
    static class Plain {
        int off(int y, int b, int p) {
            return Math.max(-9, Math.min(9, b));
        }
    }

    static class Drifting extends Plain {
        @Override int off(int y, int b, int p) {
            int plain = super.off(y, b, p);
            return Math.floorMod(y, 2) == 0 ? Math.min(9, plain + 1) : plain;
        }
    }

    static class Pulled extends Plain {
        @Override int off(int y, int b, int p) {
            int plain = super.off(y, b, p);
            return plain < p ? plain + 1 : plain > p ? plain - 1 : plain;
        }
    }

    static class Loving extends Pulled {
        @Override int off(int y, int b, int p) {
            return super.off(y, super.off(y, b, p), p);
        }
    }

    static class Trembling extends Loving {
        @Override int off(int y, int b, int p) {
            int loving = super.off(y, b, p);
            return Math.max(-9, Math.min(9, y % 2 == 1 ? loving + 1 : loving - 1));
        }
    }

    static class Stuck extends Drifting {
        @Override int off(int y, int b, int p) {
            return Math.max(-3, Math.min(3, super.off(y, b, p)));
        }
    }

    static class PlainStorey {
        boolean stands(int a, int u, int l) {
            return Math.abs(a - u) <= 2;
        }

        int heavy() {
            return 2;
        }
    }

    static class Brick extends PlainStorey {
        @Override boolean stands(int a, int u, int l) {
            return super.stands(a, u, l) && l <= 8;
        }

        @Override int heavy() {
            return super.heavy() + 1;
        }
    }

    static class Church extends PlainStorey {
        @Override boolean stands(int a, int u, int l) {
            return super.stands(a, u, l) && Math.abs(a - u) <= 1;
        }

        @Override int heavy() {
            return 2 * super.heavy();
        }
    }

    static class Shed extends PlainStorey {
        @Override boolean stands(int a, int u, int l) {
            return l <= 3;
        }

        @Override int heavy() {
            return super.heavy() - 1;
        }
    }

    static class Tower extends Church {
        @Override boolean stands(int a, int u, int l) {
            return super.stands(a, u, l) && l <= 5;
        }

        @Override int heavy() {
            return super.heavy() + 1;
        }
    }

    static class Hut extends Shed {
        @Override boolean stands(int a, int u, int l) {
            return super.stands(a, u, l) && a >= -6 && a <= 6;
        }
    }

    static final Plain[] LEVELS = {
        new Plain(), new Drifting(), new Pulled(), new Loving(), new Trembling(), new Stuck()};
    static final PlainStorey[] STOREYS = {
        new PlainStorey(), new Brick(), new Church(), new Shed(), new Tower(), new Hut()};

    record Storey(int kind, int tilt) {
    }

    record Past(int off, int year, List<List<Storey>> plots) {
    }

    static final class State {
        int kind;
        int off;
        int year;
        int[] pulls = new int[6];
        List<List<Storey>> plots = new ArrayList<>();
        List<Integer> views = new ArrayList<>();
        List<int[]> notes = new ArrayList<>();
        List<int[]> marks = new ArrayList<>();
        List<Past> past = new ArrayList<>();

        State(int kind) {
            this.kind = kind;
            for (int p = 0; p < 6; p++) {
                plots.add(new ArrayList<>());
            }
        }

        State copy() {
            State other = new State(kind);
            other.off = off;
            other.year = year;
            other.pulls = pulls.clone();
            other.plots = copyOf(plots);
            other.views = new ArrayList<>(views);
            other.notes = new ArrayList<>(notes);
            other.marks = new ArrayList<>(marks);
            other.past = new ArrayList<>(past);
            return other;
        }

        void remember() {
            past.add(new Past(off, year, copyOf(plots)));
            if (past.size() > 8) {
                past.remove(0);
            }
        }

        int next(int y, int b) {
            return LEVELS[kind].off(y, b, pulls[y % 6]);
        }

        void oneYear() {
            if (year < 9999) {
                off = next(year, off);
                year++;
            }
        }

        int storeys() {
            int all = 0;
            for (List<Storey> plot : plots) {
                all += plot.size();
            }
            return all;
        }
    }

    static List<List<Storey>> copyOf(List<List<Storey>> plots) {
        List<List<Storey>> copy = new ArrayList<>();
        for (List<Storey> plot : plots) {
            copy.add(new ArrayList<>(plot));
        }
        return copy;
    }

    static int load(List<Storey> plot, int i) {
        int load = 0;
        for (int j = plot.size() - 1; j > i; j--) {
            load += STOREYS[plot.get(j).kind()].heavy();
        }
        return load;
    }

    static int top(List<Storey> plot) {
        return plot.isEmpty() ? 0 : plot.get(plot.size() - 1).tilt();
    }

    static void raise(List<Storey> plot, int kind, int tilt) {
        plot.add(new Storey(kind, tilt));
        boolean again = true;
        while (again) {
            again = false;
            for (int i = 0; i < plot.size(); i++) {
                int u = i == 0 ? 0 : plot.get(i - 1).tilt();
                Storey s = plot.get(i);
                if (!STOREYS[s.kind()].stands(s.tilt(), u, load(plot, i))) {
                    while (plot.size() > i) {
                        plot.remove(plot.size() - 1);
                    }
                    again = true;
                }
            }
        }
    }

    private State s = new State(0);
    private final State[] images = new State[2];
    private final StringBuilder text = new StringBuilder();
    private BigInteger above = BigInteger.ZERO;
    private BigInteger below = BigInteger.ONE;
    private final int[] refused = new int[3];

    private int bad(int answer) {
        refused[0]++;
        return answer;
    }

    private int no() {
        refused[1]++;
        return -3;
    }

    private int full() {
        refused[2]++;
        return -4;
    }

    private static boolean out(int x, int least, int most) {
        return x < least || x > most;
    }

    public int town(int kind) {
        if (out(kind, 0, 5)) {
            return bad(-2);
        }
        int were = s.storeys();
        s = new State(kind);
        return were;
    }

    public int pull(int y, int p) {
        if (out(y, 0, 5) || out(p, -9, 9)) {
            return bad(-100);
        }
        int was = s.pulls[y];
        s.pulls[y] = p;
        s.past.clear();
        return was;
    }

    public int member(int view) {
        if (out(view, -9, 9)) {
            return bad(-2);
        }
        if (s.views.size() == 5) {
            return full();
        }
        s.views.add(view);
        s.past.clear();
        return s.views.size() - 1;
    }

    public int type(int c) {
        if (out(c, 0, 127)) {
            return bad(-2);
        }
        if (text.length() == 150) {
            return full();
        }
        text.append((char) c);
        return text.length();
    }

    public int clear() {
        int had = text.length();
        text.setLength(0);
        return had;
    }

    private static final Pattern TOKEN = Pattern.compile("[a-z]+|[0-9]+|;|[^ ]", Pattern.DOTALL);

    public int read() {
        State draft = null;
        int items = 0;
        String word = null;
        List<Integer> numbers = new ArrayList<>();
        Matcher m = TOKEN.matcher(text);
        while (m.find()) {
            String token = m.group();
            int fault = -10 - m.start();
            if (word == null) {
                boolean first = draft == null;
                if (first != token.equals("town")
                        || !Arrays.asList("town", "pulls", "build", "string", "years").contains(token)) {
                    return fault;
                }
                word = token;
                numbers.clear();
                draft = first ? new State(0) : draft;
            } else if (token.equals(";")) {
                int least = word.equals("build") || word.equals("string") ? 2 : 1;
                if (numbers.size() < least) {
                    return fault;
                }
                carryOut(draft, word, numbers);
                items++;
                word = null;
            } else {
                if (!token.matches("[0-9]{1,2}") || !mayStand(draft, word, numbers.size(), Integer.parseInt(token))) {
                    return fault;
                }
                numbers.add(Integer.parseInt(token));
            }
        }
        if (word != null || draft == null) {
            return -10 - text.length();
        }
        s = draft;
        return items;
    }

    private static boolean mayStand(State draft, String word, int place, int number) {
        switch (word) {
            case "town":
                return place == 0 && number <= 5;
            case "pulls":
                return place < 6 && number <= 18;
            case "years":
                return place == 0 && number >= 1;
            default:
                return place == 0 ? number <= 5 && draft.plots.get(number).size() < 5 : place == 1 && number <= 5;
        }
    }

    private static void carryOut(State draft, String word, List<Integer> numbers) {
        switch (word) {
            case "town":
                draft.kind = numbers.get(0);
                break;
            case "pulls":
                for (int y = 0; y < numbers.size(); y++) {
                    draft.pulls[y] = numbers.get(y) - 9;
                }
                break;
            case "years":
                for (int i = 0; i < numbers.get(0); i++) {
                    draft.oneYear();
                }
                break;
            default:
                raise(draft.plots.get(numbers.get(0)), numbers.get(1), word.equals("build") ? draft.off : 0);
        }
    }

    public int build(int p, int kind, int string) {
        if (out(p, 0, 5) || out(kind, 0, 5) || out(string, 0, 1)) {
            return bad(-2);
        }
        if (s.plots.get(p).size() == 5) {
            return full();
        }
        s.remember();
        raise(s.plots.get(p), kind, string == 0 ? s.off : 0);
        return s.plots.get(p).size();
    }

    public int year(int n) {
        if (out(n, 1, 99)) {
            return bad(-100);
        }
        s.remember();
        for (int i = 0; i < n; i++) {
            s.oneYear();
        }
        return s.off;
    }

    public int undo() {
        if (s.past.isEmpty()) {
            return no();
        }
        Past past = s.past.remove(s.past.size() - 1);
        s.off = past.off();
        s.year = past.year();
        s.plots = copyOf(past.plots());
        return s.year;
    }

    public int now(int what) {
        if (out(what, 0, 3)) {
            return bad(-100);
        }
        return new int[] {s.kind, s.off, s.year, s.pulls[s.year % 6]}[what];
    }

    public int of(int p, int i, int what) {
        if (out(p, 0, 5) || out(what, 0, 2) || out(i, 0, s.plots.get(p).size() - 1)) {
            return bad(-100);
        }
        Storey storey = s.plots.get(p).get(i);
        return new int[] {storey.kind(), storey.tilt(), load(s.plots.get(p), i)}[what];
    }

    public int plot(int p, int what) {
        if (out(p, 0, 5) || out(what, 0, 2)) {
            return bad(-100);
        }
        List<Storey> plot = s.plots.get(p);
        return new int[] {plot.size(), top(plot), load(plot, -1)}[what];
    }

    private int offBehind(int m) {
        int off = s.off;
        for (int i = 0; i < m; i++) {
            off = s.next(s.year + i, off);
        }
        return off;
    }

    public int then(int m) {
        return out(m, 0, 99) ? bad(-100) : offBehind(m);
    }

    public int when(int x) {
        if (out(x, 1, 9)) {
            return bad(-2);
        }
        for (int m = 0; m <= 99; m++) {
            if (Math.abs(offBehind(m)) >= x) {
                return m;
            }
        }
        return -1;
    }

    public int fits(int p, int kind, int string) {
        if (out(p, 0, 5) || out(kind, 0, 5) || out(string, 0, 1)) {
            return bad(-2);
        }
        if (s.plots.get(p).size() == 5) {
            return -1;
        }
        List<Storey> plot = new ArrayList<>(s.plots.get(p));
        raise(plot, kind, string == 0 ? s.off : 0);
        return plot.size();
    }

    public int rolls(int p) {
        if (out(p, 0, 5)) {
            return bad(-2);
        }
        int came = -1;
        int at = p;
        while (true) {
            int top = top(s.plots.get(at));
            int to = top > 0 ? at + 1 : top < 0 ? at - 1 : at;
            if (to == at || to < 0 || to > 5 || to == came) {
                return at;
            }
            came = at;
            at = to;
        }
    }

    private boolean step(int join) {
        return Math.abs(top(s.plots.get(join)) - top(s.plots.get(join + 1))) >= 3;
    }

    public int lies(int what) {
        if (out(what, 0, 1)) {
            return bad(-2);
        }
        int bits = 0;
        for (int i = 0; i < 6; i++) {
            if (what == 0 ? top(s.plots.get(i)) == 0 : i < 5 && step(i)) {
                bits += 1 << i;
            }
        }
        return bits;
    }

    public int pass(int a, int b) {
        if (out(a, 0, 5) || out(b, 0, 5)) {
            return bad(-2);
        }
        int at = a;
        while (at != b) {
            int to = at < b ? at + 1 : at - 1;
            if (step(Math.min(at, to))) {
                return 0;
            }
            at = to;
        }
        return 1;
    }

    public int order(int kinds, int i) {
        String figures = Integer.toString(kinds);
        if (!figures.matches("[1-6]{1,4}") || i < -1) {
            return bad(-10);
        }
        int n = figures.length();
        int most = -1;
        int[] first = null;
        int ways = (int) Math.round(Math.pow(6, n));
        for (int way = 0; way < ways; way++) {
            int[] choice = new int[n];
            int rest = way;
            for (int t = n - 1; t >= 0; t--) {
                choice[t] = rest % 6;
                rest /= 6;
            }
            int all = storeysBehind(figures, choice);
            if (all > most) {
                most = all;
                first = choice;
            }
        }
        if (first == null) {
            return -1;
        }
        return i == -1 ? most : i < n ? first[i] : -5;
    }

    private int storeysBehind(String figures, int[] choice) {
        State then = s.copy();
        for (int t = 0; t < choice.length; t++) {
            List<Storey> plot = then.plots.get(choice[t]);
            if (plot.size() == 5) {
                return -1;
            }
            raise(plot, figures.charAt(t) - '1', then.off);
            then.off = then.next(s.year + t, then.off);
        }
        return then.storeys();
    }

    private boolean yes(int m, int off) {
        return s.views.get(m) + off >= 1;
    }

    /** Whether it is carried, where one member (or none: -1) votes the other way. */
    private boolean carried(int off, int other) {
        int yes = 0;
        for (int m = 0; m < s.views.size(); m++) {
            if (yes(m, off) != (m == other)) {
                yes++;
            }
        }
        return yes > s.views.size() - yes;
    }

    public int council(int what) {
        if (out(what, 0, 2)) {
            return bad(-2);
        }
        if (what == 1) {
            return carried(s.off, -1) ? 1 : 0;
        }
        int bits = 0;
        for (int m = 0; m < s.views.size(); m++) {
            if (what == 0 ? yes(m, s.off) : yes(m, s.off) != yes(m, 0)) {
                bits += 1 << m;
            }
        }
        return bits;
    }

    public int power(int m) {
        if (out(m, 0, s.views.size() - 1)) {
            return bad(-2);
        }
        int ways = 0;
        for (int off = -9; off <= 9; off++) {
            if (carried(off, -1) != carried(off, m)) {
                ways++;
            }
        }
        return ways;
    }

    public int built(int kind, int a) {
        if (out(kind, 0, 5) || out(a, -9, 9)) {
            return bad(-2);
        }
        int bits = 0;
        for (int y = 0; y < 30; y++) {
            int off = 0;
            for (int i = 0; i < y; i++) {
                off = LEVELS[kind].off(i, off, s.pulls[i % 6]);
            }
            if (off == a) {
                bits += 1 << y;
            }
        }
        return bits;
    }

    public int note(int b, int p, int y, int a) {
        if (out(b, -9, 9) || out(p, -9, 9) || out(y, 0, 99) || out(a, -9, 9)) {
            return bad(-2);
        }
        if (s.notes.size() == 6) {
            return full();
        }
        s.notes.add(new int[] {b, p, y, a});
        return s.notes.size();
    }

    public int mark(int name, int a, int u, int l, int stood) {
        if (out(name, 0, 9) || out(a, -9, 9) || out(u, -9, 9) || out(l, 0, 30) || out(stood, 0, 1)) {
            return bad(-2);
        }
        if (s.marks.size() == 6) {
            return full();
        }
        s.marks.add(new int[] {name, a, u, l, stood});
        return s.marks.size();
    }

    public int forget(int what) {
        if (out(what, 0, 1)) {
            return bad(-2);
        }
        List<int[]> gone = what == 0 ? s.notes : s.marks;
        int were = gone.size();
        gone.clear();
        return were;
    }

    private List<Integer> levelKinds() {
        List<Integer> fitting = new ArrayList<>();
        for (int kind = 0; kind < 6; kind++) {
            Plain level = LEVELS[kind];
            if (s.notes.stream().allMatch(n -> level.off(n[2], n[0], n[1]) == n[3])) {
                fitting.add(kind);
            }
        }
        return fitting;
    }

    private List<Integer> storeyKinds(int name) {
        List<Integer> fitting = new ArrayList<>();
        for (int kind = 0; kind < 6; kind++) {
            PlainStorey storey = STOREYS[kind];
            if (s.marks.stream().allMatch(m -> m[0] != name || storey.stands(m[1], m[2], m[3]) == (m[4] == 1))) {
                fitting.add(kind);
            }
        }
        return fitting;
    }

    private static int bits(List<Integer> kinds) {
        int bits = 0;
        for (int kind : kinds) {
            bits += 1 << kind;
        }
        return bits;
    }

    public int is() {
        return bits(levelKinds());
    }

    public int watch() {
        List<Integer> fitting = levelKinds();
        int fewest = Integer.MAX_VALUE;
        int best = -1;
        for (int look = 0; look <= 518; look++) {
            int y = look / 100;
            int p = look % 100 - 9;
            if (fitting.isEmpty() || p > 9) {
                continue;
            }
            int most = 0;
            for (int one : fitting) {
                int alike = 0;
                for (int other : fitting) {
                    if (LEVELS[one].off(y, s.off, p) == LEVELS[other].off(y, s.off, p)) {
                        alike++;
                    }
                }
                most = Math.max(most, alike);
            }
            if (most < fewest) {
                fewest = most;
                best = look;
            }
        }
        return best;
    }

    public int kinds(int name) {
        return out(name, 0, 9) ? bad(-2) : bits(storeyKinds(name));
    }

    public int tries(int name) {
        if (out(name, 0, 9)) {
            return bad(-2);
        }
        List<Integer> fitting = storeyKinds(name);
        int least = Integer.MAX_VALUE;
        int best = -1;
        for (int look = 0; look <= 909; look++) {
            int a = look / 100;
            int l = look % 100;
            if (fitting.isEmpty() || l > 9) {
                continue;
            }
            long standing = fitting.stream().filter(kind -> STOREYS[kind].stands(a, 0, l)).count();
            int part = (int) Math.max(standing, fitting.size() - standing);
            if (part < least) {
                least = part;
                best = look;
            }
        }
        return best;
    }

    public int game() {
        int[][] carrier = new int[2][2];
        int[][] keeper = new int[2][2];
        for (int comes = 0; comes < 2; comes++) {
            for (int holds = 0; holds < 2; holds++) {
                int p = comes == 1 ? s.pulls[s.year % 6] : 0;
                int off = Math.abs(holds == 1 ? s.off : LEVELS[s.kind].off(s.year, s.off, p));
                carrier[comes][holds] = off - comes;
                keeper[comes][holds] = -off - 2 * holds;
            }
        }
        int bits = 0;
        for (int comes = 0; comes < 2; comes++) {
            for (int holds = 0; holds < 2; holds++) {
                boolean more = carrier[1 - comes][holds] > carrier[comes][holds]
                        || keeper[comes][1 - holds] > keeper[comes][holds];
                if (!more) {
                    bits += 1 << (comes + 2 * holds);
                }
            }
        }
        return bits;
    }

    public int chance(int x, int m, int c) {
        if (out(x, 1, 9) || out(m, 0, 8) || out(c, 0, 10)) {
            return bad(-2);
        }
        BigInteger sum = BigInteger.ZERO;
        for (int unpulled = 0; unpulled < 1 << m; unpulled++) {
            int off = s.off;
            BigInteger weight = BigInteger.ONE;
            for (int i = 0; i < m; i++) {
                boolean none = (unpulled >> i & 1) == 1;
                int y = s.year + i;
                off = LEVELS[s.kind].off(y, off, none ? 0 : s.pulls[y % 6]);
                weight = weight.multiply(BigInteger.valueOf(none ? c : 10 - c));
            }
            if (Math.abs(off) >= x) {
                sum = sum.add(weight);
            }
        }
        BigInteger all = BigInteger.TEN.pow(m);
        BigInteger shared = sum.gcd(all);
        above = sum.divide(shared);
        below = all.divide(shared);
        return 1;
    }

    public int times(int seed, int n) {
        if (out(seed, 0, 999999) || out(n, 0, 60)) {
            return bad(-2);
        }
        BigInteger x = BigInteger.valueOf(seed);
        int off = s.off;
        int together = 0;
        for (int i = 0; i < n; i++) {
            x = x.multiply(BigInteger.valueOf(1103515245)).add(BigInteger.valueOf(12345))
                    .mod(BigInteger.valueOf(2147483648L));
            int p = x.divide(BigInteger.valueOf(65536)).mod(BigInteger.valueOf(19)).intValue() - 9;
            off = LEVELS[s.kind].off(s.year + i, off, p);
            together += Math.abs(off);
        }
        return together;
    }

    public long part(int what) {
        return out(what, 0, 1) ? bad(-2) : (what == 0 ? above : below).longValue();
    }

    public int image(int i) {
        if (out(i, 0, 1)) {
            return bad(-2);
        }
        images[i] = s.copy();
        return 1;
    }

    public int from(int i) {
        if (out(i, 0, 1)) {
            return bad(-2);
        }
        if (images[i] == null) {
            return no();
        }
        s = images[i].copy();
        return 1;
    }

    public int status(int what) {
        return out(what, 0, 2) ? bad(-1) : refused[what];
    }

    public int count(int what) {
        if (out(what, 0, 6)) {
            return bad(-2);
        }
        return new int[] {s.storeys(), s.year, s.views.size(), s.notes.size(), s.marks.size(), s.past.size(),
            text.length()}[what];
    }

    public long digest() {
        List<Long> values = new ArrayList<>();
        for (int what = 0; what <= 6; what++) {
            values.add((long) count(what));
        }
        values.add((long) s.kind);
        values.add((long) s.off);
        for (int p : s.pulls) {
            values.add((long) p);
        }
        for (List<Storey> plot : s.plots) {
            values.add((long) plot.size());
            for (Storey storey : plot) {
                values.add((long) storey.kind());
                values.add((long) storey.tilt());
            }
        }
        for (int view : s.views) {
            values.add((long) view);
        }
        for (int[] note : s.notes) {
            for (int v : note) {
                values.add((long) v);
            }
        }
        for (int[] mark : s.marks) {
            for (int v : mark) {
                values.add((long) v);
            }
        }
        values.add(above.longValue());
        values.add(below.longValue());
        long h = 1489;
        for (long v : values) {
            h = 31 * h + v;
        }
        return h;
    }
}
