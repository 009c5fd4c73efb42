/** A town built by a spirit level that has gone over: what it is off by, what stands, what was. */
public final class LevelGone {
    public static final int NONE = -1, BAD = -2, NO = -3, FULL = -4;

    /** The BAD of calls whose answers may be below 0 by themselves. */
    private static final int BAD_OF_TILTS = -100;
    private static final int BAD_ORDER = -10;
    private static final int NOT_SO_MANY = -5;
    private static final int NO_SUCH_STATUS = -1;
    private static final int FAULTS = -10;

    private static final int MOST_OFF = 9;
    private static final int WAYS_OFF = 19;
    private static final int LEVEL_KINDS = 6;
    private static final int STOREY_KINDS = 6;
    private static final int PLOTS = 6;
    private static final int STOREYS = 5;
    private static final int PULLS = 6;
    private static final int LAST_YEAR = 9999;
    private static final int MOST_YEARS = 99;
    private static final int STEP = 3;

    private static final int MEMBERS = 5;
    private static final int NOTES = 6;
    private static final int NOTE_CELLS = 4;
    private static final int MARKS = 6;
    private static final int MARK_CELLS = 5;
    private static final int NAMES = 10;
    private static final int UNDOS = 8;
    private static final int IMAGES = 2;
    private static final int TEXT_BYTES = 150;

    private static final int BUILT_YEARS = 30;
    private static final int TURNS = 4;
    private static final int MOST_ORDER = 9999;
    private static final int CHANCE_YEARS = 8;
    private static final int CHANCE_PARTS = 10;
    private static final int MOST_SEED = 999999;
    private static final int SEED_YEARS = 60;

    private final Town town = new Town();
    private final Town draft = new Town();
    private final Town[] images = new Town[IMAGES];
    private int imagesKept;
    private final Text text = new Text();
    private final Planner planner = new Planner();
    private final Site trial = new Site();
    private int[] spread = new int[WAYS_OFF];
    private int[] spreadBehind = new int[WAYS_OFF];
    private final int[] tally = new int[WAYS_OFF];
    private long above;
    private long below = 1;
    private int refusedAsBad;
    private int refusedAsNo;
    private int refusedAsFull;

    public LevelGone() {
        for (int i = 0; i < images.length; i++) {
            images[i] = new Town();
        }
    }

    // ---- a town

    public int town(int kind) {
        if (!isLevelKind(kind)) {
            return bad(BAD);
        }
        int before = town.site.storeys();
        town.begin(kind);
        return before;
    }

    public int pull(int y, int p) {
        if (!Rows.within(y, 0, PULLS - 1) || !isTilt(p)) {
            return bad(BAD_OF_TILTS);
        }
        int before = Rows.at(town.pulls, y);
        Rows.put(town.pulls, y, p);
        town.pasts = 0;
        return before;
    }

    public int member(int view) {
        if (!isTilt(view)) {
            return bad(BAD);
        }
        if (town.members >= MEMBERS) {
            return full();
        }
        int number = town.members;
        Rows.put(town.views, number, view);
        town.members = number + 1;
        town.pasts = 0;
        return number;
    }

    public int type(int c) {
        if (!Rows.within(c, 0, 127)) {
            return bad(BAD);
        }
        if (text.length >= TEXT_BYTES) {
            return full();
        }
        Rows.put(text.bytes, text.length, c);
        text.length++;
        return text.length;
    }

    public int clear() {
        int before = text.length;
        text.length = 0;
        return before;
    }

    public int read() {
        int items = text.readInto(draft);
        if (items > 0) {
            town.copyFrom(draft);
        }
        return items;
    }

    // ---- years

    public int build(int p, int kind, int string) {
        if (!isBuilding(p, kind, string)) {
            return bad(BAD);
        }
        if (town.site.height(p) >= STOREYS) {
            return full();
        }
        town.keepForUndo();
        town.site.raise(p, kind, tiltBuilt(string));
        return town.site.height(p);
    }

    public int year(int n) {
        if (!Rows.within(n, 1, MOST_YEARS)) {
            return bad(BAD_OF_TILTS);
        }
        town.keepForUndo();
        town.goOn(n);
        return town.site.off;
    }

    public int undo() {
        if (town.pasts <= 0) {
            return no();
        }
        town.stepBack();
        return town.site.year;
    }

    public int now(int what) {
        switch (what) {
            case 0: return town.kind;
            case 1: return town.site.off;
            case 2: return town.site.year;
            case 3: return town.pullOf(town.site.year);
            default: return bad(BAD_OF_TILTS);
        }
    }

    public int of(int p, int i, int what) {
        if (!isPlot(p) || !Rows.within(i, 0, town.site.height(p) - 1)) {
            return bad(BAD_OF_TILTS);
        }
        switch (what) {
            case 0: return town.site.kindAt(p, i);
            case 1: return town.site.tiltAt(p, i);
            case 2: return town.site.loadOn(p, i);
            default: return bad(BAD_OF_TILTS);
        }
    }

    public int plot(int p, int what) {
        if (!isPlot(p)) {
            return bad(BAD_OF_TILTS);
        }
        switch (what) {
            case 0: return town.site.height(p);
            case 1: return town.site.top(p);
            case 2: return town.site.weight(p);
            default: return bad(BAD_OF_TILTS);
        }
    }

    // ---- what it does

    public int then(int m) {
        if (!Rows.within(m, 0, MOST_YEARS)) {
            return bad(BAD_OF_TILTS);
        }
        int off = town.site.off;
        for (int gone = 0; gone < m; gone++) {
            off = town.offBehind(town.site.year + gone, off);
        }
        return off;
    }

    public int when(int x) {
        if (!Rows.within(x, 1, MOST_OFF)) {
            return bad(BAD);
        }
        int off = town.site.off;
        for (int gone = 0; gone <= MOST_YEARS; gone++) {
            if (Math.abs(off) >= x) {
                return gone;
            }
            off = town.offBehind(town.site.year + gone, off);
        }
        return NONE;
    }

    public int fits(int p, int kind, int string) {
        if (!isBuilding(p, kind, string)) {
            return bad(BAD);
        }
        if (town.site.height(p) >= STOREYS) {
            return NONE;
        }
        trial.copyFrom(town.site);
        trial.raise(p, kind, tiltBuilt(string));
        return trial.height(p);
    }

    public int rolls(int p) {
        if (!isPlot(p)) {
            return bad(BAD);
        }
        int from = NONE;
        int at = p;
        for (int moves = 0; moves < PLOTS; moves++) {
            int next = at + Integer.compare(town.site.top(at), 0);
            if (next == at || next == from || !isPlot(next)) {
                return at;
            }
            from = at;
            at = next;
        }
        return at;
    }

    public int lies(int what) {
        switch (what) {
            case 0: return levelPlots();
            case 1: return steps();
            default: return bad(BAD);
        }
    }

    public int pass(int a, int b) {
        if (!isPlot(a) || !isPlot(b)) {
            return bad(BAD);
        }
        int steps = steps();
        for (int join = Math.min(a, b); join < Math.max(a, b); join++) {
            if (has(steps, join)) {
                return 0;
            }
        }
        return 1;
    }

    public int order(int kinds, int i) {
        if (i < -1 || !planner.takesKinds(kinds)) {
            return bad(BAD_ORDER);
        }
        planner.plan(town);
        if (planner.best < 0) {
            return NONE;
        }
        if (i == -1) {
            return planner.best;
        }
        return i < planner.turns ? Rows.at(planner.bestPlots, i) : NOT_SO_MANY;
    }

    // ---- a council

    public int council(int what) {
        int yes = yesVotes(town.site.off);
        switch (what) {
            case 0: return yes;
            case 1: return carries(yes) ? 1 : 0;
            case 2: return yes ^ yesVotes(0);
            default: return bad(BAD);
        }
    }

    public int power(int m) {
        if (!Rows.within(m, 0, town.members - 1)) {
            return bad(BAD);
        }
        int turned = 0;
        for (int off = -MOST_OFF; off <= MOST_OFF; off++) {
            int yes = yesVotes(off);
            if (carries(yes) != carries(yes ^ (1 << m))) {
                turned++;
            }
        }
        return turned;
    }

    // ---- what it was

    public int built(int kind, int a) {
        if (!isLevelKind(kind) || !isTilt(a)) {
            return bad(BAD);
        }
        int years = 0;
        int off = 0;
        for (int y = 0; y < BUILT_YEARS; y++) {
            if (off == a) {
                years |= 1 << y;
            }
            off = Levels.behind(kind, y, off, town.pullOf(y));
        }
        return years;
    }

    public int note(int b, int p, int y, int a) {
        if (!isTilt(b) || !isTilt(p) || !Rows.within(y, 0, MOST_YEARS) || !isTilt(a)) {
            return bad(BAD);
        }
        if (town.noteCount >= NOTES) {
            return full();
        }
        int first = town.noteCount * NOTE_CELLS;
        Rows.put(town.notes, first, b);
        Rows.put(town.notes, first + 1, p);
        Rows.put(town.notes, first + 2, y);
        Rows.put(town.notes, first + 3, a);
        town.noteCount++;
        return town.noteCount;
    }

    public int mark(int name, int a, int u, int l, int stood) {
        boolean asTold = isName(name) && isTilt(a) && isTilt(u)
                && Rows.within(l, 0, 30) && Rows.within(stood, 0, 1);
        if (!asTold) {
            return bad(BAD);
        }
        if (town.markCount >= MARKS) {
            return full();
        }
        int first = town.markCount * MARK_CELLS;
        Rows.put(town.marks, first, name);
        Rows.put(town.marks, first + 1, a);
        Rows.put(town.marks, first + 2, u);
        Rows.put(town.marks, first + 3, l);
        Rows.put(town.marks, first + 4, stood);
        town.markCount++;
        return town.markCount;
    }

    public int forget(int what) {
        int before;
        switch (what) {
            case 0:
                before = town.noteCount;
                town.noteCount = 0;
                return before;
            case 1:
                before = town.markCount;
                town.markCount = 0;
                return before;
            default:
                return bad(BAD);
        }
    }

    public int is() {
        int fitting = 0;
        for (int kind = 0; kind < LEVEL_KINDS; kind++) {
            if (town.notesFit(kind)) {
                fitting |= 1 << kind;
            }
        }
        return fitting;
    }

    public int watch() {
        int fitting = is();
        int best = NONE;
        int fewest = LEVEL_KINDS + 1;
        if (fitting == 0) {
            return NONE;
        }
        for (int y = 0; y < PULLS; y++) {
            for (int p = -MOST_OFF; p <= MOST_OFF; p++) {
                int alike = mostAlike(fitting, y, p);
                if (alike < fewest) {
                    fewest = alike;
                    best = 100 * y + MOST_OFF + p;
                }
            }
        }
        return best;
    }

    public int kinds(int name) {
        if (!isName(name)) {
            return bad(BAD);
        }
        int fitting = 0;
        for (int kind = 0; kind < STOREY_KINDS; kind++) {
            if (town.marksFit(name, kind)) {
                fitting |= 1 << kind;
            }
        }
        return fitting;
    }

    public int tries(int name) {
        if (!isName(name)) {
            return bad(BAD);
        }
        int fitting = kinds(name);
        int best = NONE;
        int least = STOREY_KINDS + 1;
        if (fitting == 0) {
            return NONE;
        }
        for (int a = 0; a <= 9; a++) {
            for (int l = 0; l <= 9; l++) {
                int part = greaterPart(fitting, a, l);
                if (part < least) {
                    least = part;
                    best = 100 * a + l;
                }
            }
        }
        return best;
    }

    public int game() {
        int resting = 0;
        for (int pair = 0; pair < 4; pair++) {
            boolean carrierRests = carrierGets(pair) >= carrierGets(pair ^ 1);
            boolean keeperRests = keeperGets(pair) >= keeperGets(pair ^ 2);
            if (carrierRests && keeperRests) {
                resting |= 1 << pair;
            }
        }
        return resting;
    }

    public int chance(int x, int m, int c) {
        boolean asTold = Rows.within(x, 1, MOST_OFF) && Rows.within(m, 0, CHANCE_YEARS)
                && Rows.within(c, 0, CHANCE_PARTS);
        if (!asTold) {
            return bad(BAD);
        }
        Rows.empty(spread);
        Rows.put(spread, town.site.off + MOST_OFF, 1);
        int all = 1;
        for (int gone = 0; gone < m; gone++) {
            spreadOverYear(town.site.year + gone, c);
            all *= CHANCE_PARTS;
        }
        int part = 0;
        for (int off = -MOST_OFF; off <= MOST_OFF; off++) {
            if (Math.abs(off) >= x) {
                part += Rows.at(spread, off + MOST_OFF);
            }
        }
        setFraction(part, all);
        return 1;
    }

    public int times(int seed, int n) {
        if (!Rows.within(seed, 0, MOST_SEED) || !Rows.within(n, 0, SEED_YEARS)) {
            return bad(BAD);
        }
        long x = seed;
        int off = town.site.off;
        int together = 0;
        for (int gone = 0; gone < n; gone++) {
            x = (x * 1103515245L + 12345L) % 2147483648L;
            int p = (int) (x / 65536L % WAYS_OFF) - MOST_OFF;
            off = Levels.behind(town.kind, town.site.year + gone, off, p);
            together += Math.abs(off);
        }
        return together;
    }

    // ---- what there is

    public long part(int what) {
        switch (what) {
            case 0: return above;
            case 1: return below;
            default: return bad(BAD);
        }
    }

    public int image(int i) {
        Town image = imageAt(i);
        if (image == null) {
            return bad(BAD);
        }
        image.copyFrom(town);
        imagesKept |= 1 << i;
        return 1;
    }

    public int from(int i) {
        Town image = imageAt(i);
        if (image == null) {
            return bad(BAD);
        }
        if (!has(imagesKept, i)) {
            return no();
        }
        town.copyFrom(image);
        return 1;
    }

    public int status(int what) {
        switch (what) {
            case 0: return refusedAsBad;
            case 1: return refusedAsNo;
            case 2: return refusedAsFull;
            default: return bad(NO_SUCH_STATUS);
        }
    }

    public int count(int what) {
        switch (what) {
            case 0: return town.site.storeys();
            case 1: return town.site.year;
            case 2: return town.members;
            case 3: return town.noteCount;
            case 4: return town.markCount;
            case 5: return town.pasts;
            case 6: return text.length;
            default: return bad(BAD);
        }
    }

    public long digest() {
        long h = 1489;
        for (int what = 0; what <= 6; what++) {
            h = 31 * h + count(what);
        }
        h = 31 * h + town.kind;
        h = 31 * h + town.site.off;
        h = Rows.digested(h, town.pulls, PULLS);
        h = town.site.digested(h);
        h = Rows.digested(h, town.views, town.members);
        h = Rows.digested(h, town.notes, town.noteCount * NOTE_CELLS);
        h = Rows.digested(h, town.marks, town.markCount * MARK_CELLS);
        h = 31 * h + above;
        return 31 * h + below;
    }

    // ---- refusals

    private int bad(int answer) {
        refusedAsBad++;
        return answer;
    }

    private int no() {
        refusedAsNo++;
        return NO;
    }

    private int full() {
        refusedAsFull++;
        return FULL;
    }

    // ---- what a number may be

    private static boolean isLevelKind(int kind) {
        return Rows.within(kind, 0, LEVEL_KINDS - 1);
    }

    private static boolean isTilt(int tilt) {
        return Rows.within(tilt, -MOST_OFF, MOST_OFF);
    }

    private static boolean isPlot(int p) {
        return Rows.within(p, 0, PLOTS - 1);
    }

    private static boolean isName(int name) {
        return Rows.within(name, 0, NAMES - 1);
    }

    private static boolean isBuilding(int p, int kind, int string) {
        return isPlot(p) && Rows.within(kind, 0, STOREY_KINDS - 1) && Rows.within(string, 0, 1);
    }

    private static boolean has(int bits, int i) {
        return (bits >> i & 1) != 0;
    }

    private Town imageAt(int i) {
        return i >= 0 && i < images.length ? images[i] : null;
    }

    // ---- the town as it lies

    private int tiltBuilt(int string) {
        return string == 1 ? 0 : town.site.off;
    }

    private int levelPlots() {
        int level = 0;
        for (int p = 0; p < PLOTS; p++) {
            if (town.site.top(p) == 0) {
                level |= 1 << p;
            }
        }
        return level;
    }

    private int steps() {
        int steps = 0;
        for (int join = 0; join < PLOTS - 1; join++) {
            if (Math.abs(town.site.top(join) - town.site.top(join + 1)) >= STEP) {
                steps |= 1 << join;
            }
        }
        return steps;
    }

    // ---- votes

    private int yesVotes(int off) {
        int yes = 0;
        for (int m = 0; m < town.members; m++) {
            if (Rows.at(town.views, m) + off >= 1) {
                yes |= 1 << m;
            }
        }
        return yes;
    }

    private boolean carries(int yes) {
        return 2 * Integer.bitCount(yes) > town.members;
    }

    // ---- the next look

    /** Of the kinds told, how many of those that will be alike at most. */
    private int mostAlike(int fitting, int y, int p) {
        Rows.empty(tally);
        int most = 0;
        for (int kind = 0; kind < LEVEL_KINDS; kind++) {
            if (has(fitting, kind)) {
                int place = Levels.behind(kind, y, town.site.off, p) + MOST_OFF;
                int alike = Rows.at(tally, place) + 1;
                Rows.put(tally, place, alike);
                most = Math.max(most, alike);
            }
        }
        return most;
    }

    /** Of the kinds told, how many stand or how many do not, whichever are more. */
    private static int greaterPart(int fitting, int a, int l) {
        int standing = 0;
        for (int kind = 0; kind < STOREY_KINDS; kind++) {
            if (has(fitting, kind) && Storeys.stands(kind, a, 0, l)) {
                standing++;
            }
        }
        return Math.max(standing, Integer.bitCount(fitting) - standing);
    }

    // ---- the carrier and the keeper; a pair's bit 0 is that the one comes, bit 1 that the other holds

    private int farOffBehind(int pair) {
        Site site = town.site;
        if (has(pair, 1)) {
            return Math.abs(site.off);
        }
        int p = has(pair, 0) ? town.pullOf(site.year) : 0;
        return Math.abs(Levels.behind(town.kind, site.year, site.off, p));
    }

    private int carrierGets(int pair) {
        return farOffBehind(pair) - (has(pair, 0) ? 1 : 0);
    }

    private int keeperGets(int pair) {
        return -farOffBehind(pair) - (has(pair, 1) ? 2 : 0);
    }

    // ---- chances

    /** One year more of the spread: c parts of ten have no pull, the others that of the year. */
    private void spreadOverYear(int y, int c) {
        Rows.empty(spreadBehind);
        for (int off = -MOST_OFF; off <= MOST_OFF; off++) {
            int parts = Rows.at(spread, off + MOST_OFF);
            if (parts > 0) {
                int unpulled = Levels.behind(town.kind, y, off, 0);
                Rows.add(spreadBehind, unpulled + MOST_OFF, parts * c);
                int pulled = town.offBehind(y, off);
                Rows.add(spreadBehind, pulled + MOST_OFF, parts * (CHANCE_PARTS - c));
            }
        }
        int[] spent = spread;
        spread = spreadBehind;
        spreadBehind = spent;
    }

    private void setFraction(int part, int all) {
        int shared = commonDivisor(part, all);
        if (shared > 0) {
            above = part / shared;
            below = all / shared;
        }
    }

    private static int commonDivisor(int a, int b) {
        int greater = a;
        int lesser = b;
        for (int turn = 0; turn < 100 && lesser != 0; turn++) {
            int left = greater % lesser;
            greater = lesser;
            lesser = left;
        }
        return greater;
    }

    /** Rows of numbers, touched only where they have a place. */
    private static final class Rows {
        static boolean within(int number, int least, int most) {
            return number >= least && number <= most;
        }

        static int at(int[] row, int i) {
            return row != null && i >= 0 && i < row.length ? row[i] : 0;
        }

        static void put(int[] row, int i, int value) {
            if (row != null && i >= 0 && i < row.length) {
                row[i] = value;
            }
        }

        static void add(int[] row, int i, int more) {
            put(row, i, at(row, i) + more);
        }

        static void copy(int[] source, int[] target) {
            if (source != null && target != null) {
                System.arraycopy(source, 0, target, 0, Math.min(source.length, target.length));
            }
        }

        static void empty(int[] row) {
            if (row != null) {
                for (int i = 0; i < row.length; i++) {
                    row[i] = 0;
                }
            }
        }

        static long digested(long before, int[] row, int cells) {
            long h = before;
            for (int i = 0; i < cells; i++) {
                h = 31 * h + at(row, i);
            }
            return h;
        }
    }

    /** The kinds of levels; PLAIN is any other. Written flat, since calls may go but eight deep. */
    private static final class Levels {
        static final int DRIFTING = 1, PULLED = 2, LOVING = 3, TREMBLING = 4, STUCK = 5;
        static final int STUCK_AT = 3;

        /** How far off one will be behind a year, being off by b, with a pull. */
        static int behind(int kind, int y, int b, int p) {
            boolean even = y % 2 == 0;
            int drifting = kept(even ? b + 1 : b, MOST_OFF);
            int loving = nearer(nearer(b, p), p);
            switch (kind) {
                case DRIFTING: return drifting;
                case PULLED: return nearer(b, p);
                case LOVING: return loving;
                case TREMBLING: return kept(even ? loving - 1 : loving + 1, MOST_OFF);
                case STUCK: return kept(drifting, STUCK_AT);
                default: return b;
            }
        }

        static int nearer(int b, int p) {
            if (b == p) {
                return b;
            }
            return b < p ? b + 1 : b - 1;
        }

        static int kept(int off, int most) {
            return Math.max(-most, Math.min(most, off));
        }
    }

    /** The kinds of storeys; PLAIN is any other. Written flat, as the levels. */
    private static final class Storeys {
        static final int BRICK = 1, CHURCH = 2, SHED = 3, TOWER = 4, HUT = 5;

        /** Whether one stands, tilted by a, on what is tilted by u, with a load on it. */
        static boolean stands(int kind, int a, int u, int load) {
            int unlike = Math.abs(a - u);
            switch (kind) {
                case BRICK: return unlike <= 2 && load <= 8;
                case CHURCH: return unlike <= 1;
                case SHED: return load <= 3;
                case TOWER: return unlike <= 1 && load <= 5;
                case HUT: return load <= 3 && a >= -6 && a <= 6;
                default: return unlike <= 2;
            }
        }

        static int heavy(int kind) {
            switch (kind) {
                case BRICK: return 3;
                case CHURCH: return 4;
                case SHED: return 1;
                case TOWER: return 5;
                case HUT: return 1;
                default: return 2;
            }
        }
    }

    /** What building and years change, and what undo gives back. */
    private static final class Site {
        int off;
        int year;
        final int[] heights = new int[PLOTS];
        final int[] storeyKinds = new int[PLOTS * STOREYS];
        final int[] storeyTilts = new int[PLOTS * STOREYS];

        void copyFrom(Site other) {
            off = other.off;
            year = other.year;
            Rows.copy(other.heights, heights);
            Rows.copy(other.storeyKinds, storeyKinds);
            Rows.copy(other.storeyTilts, storeyTilts);
        }

        void empty() {
            off = 0;
            year = 0;
            Rows.empty(heights);
        }

        int height(int p) {
            return Rows.at(heights, p);
        }

        int kindAt(int p, int i) {
            return Rows.at(storeyKinds, p * STOREYS + i);
        }

        int tiltAt(int p, int i) {
            return Rows.at(storeyTilts, p * STOREYS + i);
        }

        int top(int p) {
            int height = height(p);
            return height > 0 ? tiltAt(p, height - 1) : 0;
        }

        int weight(int p) {
            return loadOn(p, -1);
        }

        int loadOn(int p, int i) {
            int load = 0;
            for (int higher = i + 1; higher < height(p); higher++) {
                load += Storeys.heavy(kindAt(p, higher));
            }
            return load;
        }

        int storeys() {
            int all = 0;
            for (int p = 0; p < PLOTS; p++) {
                all += height(p);
            }
            return all;
        }

        /** A storey comes on top of a plot that has a place for it; what does not stand falls. */
        void raise(int p, int kind, int tilt) {
            int place = height(p);
            if (place >= STOREYS) {
                return;
            }
            Rows.put(storeyKinds, p * STOREYS + place, kind);
            Rows.put(storeyTilts, p * STOREYS + place, tilt);
            int height = place + 1;
            int standing = standing(p, height);
            for (int falls = 0; falls < STOREYS && standing < height; falls++) {
                height = standing;
                standing = standing(p, height);
            }
            Rows.put(heights, p, height);
        }

        /** How many of so many storeys there are below the lowest that does not stand. */
        int standing(int p, int height) {
            int load = 0;
            for (int i = 0; i < height; i++) {
                load += Storeys.heavy(kindAt(p, i));
            }
            int under = 0;
            for (int i = 0; i < height; i++) {
                int kind = kindAt(p, i);
                int tilt = tiltAt(p, i);
                load -= Storeys.heavy(kind);
                if (!Storeys.stands(kind, tilt, under, load)) {
                    return i;
                }
                under = tilt;
            }
            return height;
        }

        long digested(long before) {
            long h = before;
            for (int p = 0; p < PLOTS; p++) {
                h = 31 * h + height(p);
                for (int i = 0; i < height(p); i++) {
                    h = 31 * h + kindAt(p, i);
                    h = 31 * h + tiltAt(p, i);
                }
            }
            return h;
        }
    }

    /** All that an image keeps: the level, the site, the council, notes, marks, what may be undone. */
    private static final class Town {
        int kind;
        final int[] pulls = new int[PULLS];
        final Site site = new Site();
        final Site[] past = new Site[UNDOS];
        int pasts;
        final int[] views = new int[MEMBERS];
        int members;
        final int[] notes = new int[NOTES * NOTE_CELLS];
        int noteCount;
        final int[] marks = new int[MARKS * MARK_CELLS];
        int markCount;

        Town() {
            for (int i = 0; i < past.length; i++) {
                past[i] = new Site();
            }
        }

        void begin(int newKind) {
            kind = newKind;
            Rows.empty(pulls);
            site.empty();
            pasts = 0;
            members = 0;
            noteCount = 0;
            markCount = 0;
        }

        void copyFrom(Town other) {
            kind = other.kind;
            Rows.copy(other.pulls, pulls);
            site.copyFrom(other.site);
            pasts = other.pasts;
            for (int i = 0; i < pasts; i++) {
                Site source = other.pastAt(i);
                Site target = pastAt(i);
                if (source != null && target != null) {
                    target.copyFrom(source);
                }
            }
            members = other.members;
            Rows.copy(other.views, views);
            noteCount = other.noteCount;
            Rows.copy(other.notes, notes);
            markCount = other.markCount;
            Rows.copy(other.marks, marks);
        }

        Site pastAt(int i) {
            return i >= 0 && i < past.length ? past[i] : null;
        }

        void keepForUndo() {
            if (pasts >= UNDOS) {
                dropOldest();
            }
            Site free = pastAt(pasts);
            if (free != null) {
                free.copyFrom(site);
                pasts++;
            }
        }

        /** The oldest goes last, to be written anew: no site is made after the constructor. */
        void dropOldest() {
            for (int i = 1; i < past.length; i++) {
                Site older = past[i - 1];
                past[i - 1] = past[i];
                past[i] = older;
            }
            pasts--;
        }

        void stepBack() {
            Site last = pastAt(pasts - 1);
            if (last != null) {
                site.copyFrom(last);
                pasts--;
            }
        }

        int pullOf(int y) {
            return Rows.at(pulls, y % PULLS);
        }

        int offBehind(int y, int off) {
            return Levels.behind(kind, y, off, pullOf(y));
        }

        void goOn(int years) {
            for (int gone = 0; gone < years && site.year < LAST_YEAR; gone++) {
                site.off = Levels.behind(kind, site.year, site.off, pullOf(site.year));
                site.year++;
            }
        }

        boolean notesFit(int levelKind) {
            for (int i = 0; i < noteCount; i++) {
                int first = i * NOTE_CELLS;
                int b = Rows.at(notes, first);
                int p = Rows.at(notes, first + 1);
                int y = Rows.at(notes, first + 2);
                if (Levels.behind(levelKind, y, b, p) != Rows.at(notes, first + 3)) {
                    return false;
                }
            }
            return true;
        }

        boolean marksFit(int name, int storeyKind) {
            for (int i = 0; i < markCount; i++) {
                int first = i * MARK_CELLS;
                int a = Rows.at(marks, first + 1);
                int u = Rows.at(marks, first + 2);
                int load = Rows.at(marks, first + 3);
                boolean stood = Rows.at(marks, first + 4) == 1;
                if (Rows.at(marks, first) == name && Storeys.stands(storeyKind, a, u, load) != stood) {
                    return false;
                }
            }
            return true;
        }
    }

    /** The text that tells a town, and its reading. Where reading fails, start is the fault. */
    private static final class Text {
        static final int END = 0, WORD = 1, NUMBER = 2, STOP = 3, STRANGE = 4;

        final int[] bytes = new int[TEXT_BYTES];
        int length;
        private int token;
        private int start;
        private int behind;
        private int value;

        /** How many items were read into the town, or -10 less the fault. */
        int readInto(Town town) {
            behind = 0;
            if (!readTown(town)) {
                return FAULTS - start;
            }
            for (int items = 1; items <= TEXT_BYTES; items++) {
                advance();
                if (token == END) {
                    return items;
                }
                if (!readItem(town)) {
                    return FAULTS - start;
                }
            }
            return FAULTS - start;
        }

        private boolean readTown(Town town) {
            advance();
            if (!isWord("town") || !takesNumber(0, LEVEL_KINDS - 1)) {
                return false;
            }
            town.begin(value);
            return takesStop();
        }

        private boolean readItem(Town town) {
            if (isWord("pulls")) {
                return readPulls(town);
            }
            if (isWord("build")) {
                return readBuilding(town, town.site.off);
            }
            if (isWord("string")) {
                return readBuilding(town, 0);
            }
            if (isWord("years")) {
                return readYears(town);
            }
            return false;
        }

        private boolean readPulls(Town town) {
            for (int y = 0; y < PULLS; y++) {
                advance();
                if (token == STOP && y > 0) {
                    return true;
                }
                if (!isNumber(0, 2 * MOST_OFF)) {
                    return false;
                }
                Rows.put(town.pulls, y, value - MOST_OFF);
            }
            return takesStop();
        }

        private boolean readBuilding(Town town, int tilt) {
            if (!takesNumber(0, PLOTS - 1) || town.site.height(value) >= STOREYS) {
                return false;
            }
            int p = value;
            if (!takesNumber(0, STOREY_KINDS - 1)) {
                return false;
            }
            int kind = value;
            if (!takesStop()) {
                return false;
            }
            town.site.raise(p, kind, tilt);
            return true;
        }

        private boolean readYears(Town town) {
            if (!takesNumber(1, MOST_YEARS)) {
                return false;
            }
            int years = value;
            if (!takesStop()) {
                return false;
            }
            town.goOn(years);
            return true;
        }

        private boolean takesNumber(int least, int most) {
            advance();
            return isNumber(least, most);
        }

        private boolean takesStop() {
            advance();
            return token == STOP;
        }

        private boolean isNumber(int least, int most) {
            return token == NUMBER && Rows.within(value, least, most);
        }

        private boolean isWord(String word) {
            if (token != WORD || behind - start != word.length()) {
                return false;
            }
            for (int i = 0; i < word.length(); i++) {
                if (Rows.at(bytes, start + i) != word.charAt(i)) {
                    return false;
                }
            }
            return true;
        }

        private void advance() {
            start = behindRun(behind, ' ', ' ');
            behind = start + 1;
            int first = Rows.at(bytes, start);
            if (start >= length) {
                token = END;
            } else if (first == ';') {
                token = STOP;
            } else if (Rows.within(first, 'a', 'z')) {
                token = WORD;
                behind = behindRun(start, 'a', 'z');
            } else if (Rows.within(first, '0', '9')) {
                behind = behindRun(start, '0', '9');
                takeFigures();
            } else {
                token = STRANGE;
            }
        }

        private void takeFigures() {
            int figures = behind - start;
            token = figures <= 2 ? NUMBER : STRANGE;
            value = 0;
            for (int i = start; i < behind; i++) {
                value = 10 * value + Rows.at(bytes, i) - '0';
            }
        }

        private int behindRun(int from, int least, int most) {
            int place = from;
            while (place < length && Rows.within(Rows.at(bytes, place), least, most)) {
                place++;
            }
            return place;
        }
    }

    /** Where to build what comes in turn so that most stands. */
    private static final class Planner {
        static final int SETS = 1 << TURNS;

        int turns;
        int best;
        final int[] bestPlots = new int[TURNS];
        private final int[] plots = new int[TURNS];
        private final int[] turnKinds = new int[TURNS];
        private final int[] turnTilts = new int[TURNS];
        private final int[] heights = new int[PLOTS * SETS];
        private final int[] sets = new int[PLOTS];
        private final Site trial = new Site();

        /** Takes the kinds from the figures of a number, if it is as told. */
        boolean takesKinds(int kinds) {
            if (!Rows.within(kinds, 1, MOST_ORDER)) {
                return false;
            }
            turns = 0;
            for (int scale = 1000; scale > 0; scale /= 10) {
                int figure = kinds / scale % 10;
                if (kinds >= scale && !Rows.within(figure, 1, STOREY_KINDS)) {
                    return false;
                }
                if (kinds >= scale) {
                    Rows.put(turnKinds, turns, figure - 1);
                    turns++;
                }
            }
            return true;
        }

        void plan(Town town) {
            int off = town.site.off;
            for (int turn = 0; turn < turns; turn++) {
                Rows.put(turnTilts, turn, off);
                off = town.offBehind(town.site.year + turn, off);
            }
            for (int p = 0; p < PLOTS; p++) {
                for (int set = 0; set < 1 << turns; set++) {
                    Rows.put(heights, p * SETS + set, heightBehind(town.site, p, set));
                }
            }
            Rows.empty(sets);
            best = NONE;
            choose(this, 0, town.site.storeys());
        }

        /**
         * How high a plot is behind the turns of a set (bits) that are built on it. The tilts are
         * the same whatever one chooses, so a plot's height hangs on its own turns alone.
         */
        private int heightBehind(Site site, int p, int set) {
            trial.copyFrom(site);
            for (int turn = 0; turn < turns; turn++) {
                if (has(set, turn)) {
                    trial.raise(p, Rows.at(turnKinds, turn), Rows.at(turnTilts, turn));
                }
            }
            return trial.height(p);
        }

        /** Tries all plots, rising, for this turn and those behind it: the first way of the most is kept. */
        private static void choose(Planner plan, int turn, int storeys) {
            if (turn >= plan.turns) {
                if (storeys > plan.best) {
                    plan.best = storeys;
                    Rows.copy(plan.plots, plan.bestPlots);
                }
                return;
            }
            for (int p = 0; p < PLOTS; p++) {
                int set = Rows.at(plan.sets, p);
                int before = Rows.at(plan.heights, p * SETS + set);
                if (before < STOREYS) {
                    int setThen = set | 1 << turn;
                    int after = Rows.at(plan.heights, p * SETS + setThen);
                    Rows.put(plan.sets, p, setThen);
                    Rows.put(plan.plots, turn, p);
                    choose(plan, turn + 1, storeys - before + after);
                    Rows.put(plan.sets, p, set);
                }
            }
        }
    }
}
