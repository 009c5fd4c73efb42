/** Promises 1 to 7: a new object, and how a town comes to be. */
public final class TownTest {
    private static void newObject() {
        LevelGone x = new LevelGone();
        for (int what = 0; what <= 3; what++) {
            Due.is("new: now(" + what + ")", x.now(what), 0);
        }
        for (int p = 0; p < 6; p++) {
            for (int what = 0; what <= 2; what++) {
                Due.is("new: plot(" + p + ", " + what + ")", x.plot(p, what), 0);
            }
        }
        for (int what = 0; what <= 6; what++) {
            Due.is("new: count(" + what + ")", x.count(what), 0);
        }
        for (int what = 0; what <= 2; what++) {
            Due.is("new: status(" + what + ")", x.status(what), 0);
        }
        Due.is("new: part(0)", x.part(0), 0);
        Due.is("new: part(1)", x.part(1), 1);
        long h = 1489;
        // seven counts, KIND, OFF, six PULLS, six PLOTS, then 0 by 1
        for (int i = 0; i < 7 + 2 + 6 + 6 + 1; i++) {
            h = 31 * h;
        }
        Due.is("new: digest()", x.digest(), 31 * h + 1);
        Due.is("new: from(0)", x.from(0), -3);
        Due.is("new: from(1)", x.from(1), -3);
    }

    private static void twoObjects() {
        LevelGone one = new LevelGone();
        LevelGone other = new LevelGone();
        one.town(4);
        one.build(0, 0, 0);
        one.chance(1, 1, 5);
        one.image(0);
        Due.is("the other's kind", other.now(0), 0);
        Due.is("the other's storeys", other.count(0), 0);
        Due.is("the other's images", other.from(0), -3);
    }

    private static void town() {
        LevelGone x = Towns.of(1, 4, -3);
        x.member(2);
        x.note(0, 0, 0, 0);
        x.mark(0, 0, 0, 0, 1);
        x.type('a');
        x.build(0, 0, 0);
        x.build(0, 0, 0);
        x.year(3);
        x.build(2, 0, 0);
        x.chance(1, 0, 0);
        x.image(1);
        x.now(9);
        Due.is("town(5) behind three storeys", x.town(5), 3);
        Due.is("kind", x.now(0), 5);
        Due.is("off", x.now(1), 0);
        Due.is("year", x.now(2), 0);
        for (int what = 0; what <= 5; what++) {
            Due.is("count(" + what + ") of a new town", x.count(what), 0);
        }
        Due.is("pull of year 0", x.pull(0, 0), 0);
        Due.is("pull of year 1", x.pull(1, 0), 0);
        Due.is("THE TEXT stays", x.count(6), 1);
        Due.is("THE FRACTION stays: above", x.part(0), 1);
        Due.is("THE FRACTION stays: below", x.part(1), 1);
        Due.is("STATUS stays", x.status(0), 1);
        Due.is("IMAGES stay", x.from(1), 1);
        Due.is("the image's storeys", x.count(0), 3);
        Due.is("town(0)", x.town(0), 3);
        Due.is("town(0) of none", x.town(0), 0);
        Due.is("town(-1)", x.town(-1), -2);
        Due.is("town(6)", x.town(6), -2);
    }

    private static void pull() {
        LevelGone x = new LevelGone();
        Due.is("pull(0, 9)", x.pull(0, 9), 0);
        Due.is("pull(0, -9)", x.pull(0, -9), 9);
        Due.is("pull(0, 1)", x.pull(0, 1), -9);
        Due.is("pull(5, 2)", x.pull(5, 2), 0);
        Due.is("pull(5, 2) again", x.pull(5, 2), 2);
        Due.is("pull of YEAR 0", x.now(3), 1);
        x.year(5);
        Due.is("pull of YEAR 5", x.now(3), 2);
        x.year(1);
        Due.is("pull of YEAR 6: that of 0", x.now(3), 1);
        Due.is("two may be undone", x.count(5), 2);
        x.pull(6, 0);
        Due.is("a refused PULL leaves what may be undone", x.count(5), 2);
        x.pull(3, 0);
        Due.is("behind a PULL none may be undone", x.count(5), 0);
        Due.is("undo()", x.undo(), -3);
        Due.is("pull(-1, 0)", x.pull(-1, 0), -100);
        Due.is("pull(6, 0)", x.pull(6, 0), -100);
        Due.is("pull(0, 10)", x.pull(0, 10), -100);
        Due.is("pull(0, -10)", x.pull(0, -10), -100);
    }

    private static void member() {
        LevelGone x = new LevelGone();
        x.year(1);
        Due.is("member(10)", x.member(10), -2);
        Due.is("member(-10)", x.member(-10), -2);
        Due.is("a refused MEMBER leaves what may be undone", x.count(5), 1);
        Due.is("member(9)", x.member(9), 0);
        Due.is("behind a MEMBER none may be undone", x.count(5), 0);
        Due.is("member(-9)", x.member(-9), 1);
        Due.is("member(0)", x.member(0), 2);
        Due.is("member(0) again", x.member(0), 3);
        Due.is("member(1)", x.member(1), 4);
        x.year(1);
        Due.is("a sixth", x.member(1), -4);
        Due.is("a sixth leaves what may be undone", x.count(5), 1);
        Due.is("a sixth not as told is BAD first", x.member(11), -2);
        Due.is("five", x.count(2), 5);
    }

    private static void text() {
        LevelGone x = new LevelGone();
        Due.is("clear() of an empty one", x.clear(), 0);
        Due.is("type(0)", x.type(0), 1);
        Due.is("type(127)", x.type(127), 2);
        Due.is("type(-1)", x.type(-1), -2);
        Due.is("type(128)", x.type(128), -2);
        Due.is("bytes", x.count(6), 2);
        Due.is("clear()", x.clear(), 2);
        Due.is("bytes behind clear()", x.count(6), 0);
        for (int i = 1; i <= 150; i++) {
            Due.is("byte " + i, x.type(' '), i);
        }
        Due.is("a 151st", x.type(' '), -4);
        Due.is("a 151st not as told is BAD first", x.type(128), -2);
        Due.is("150 blanks end too early", x.read(), -160);
        Due.is("clear() of 150", x.clear(), 150);
        Due.is("then type", x.type(' '), 1);
    }

    private static void reads(String text, int want) {
        LevelGone x = Towns.of(3, 7);
        x.build(1, 0, 0);
        x.year(1);
        Towns.typeIn(x, text);
        long before = x.digest();
        Due.is("read() of \"" + text + "\"", x.read(), want);
        if (want < 0) {
            Due.is("all stays behind \"" + text + "\"", x.digest(), before);
            Due.is("a FAULT is no status", x.status(0) + x.status(1) + x.status(2), 0);
        }
    }

    /** One ITEM is a TOWN, too; what a longer TEXT held ahead of it is gone. */
    private static void readsAnew() {
        LevelGone x = Towns.of(3, 7);
        x.build(1, 0, 0);
        Due.is("one ITEM", Towns.read(x, "town 05;"), 1);
        Due.is("kind", x.now(0), 5);
        Due.is("storeys", x.count(0), 0);
        Due.is("what was behind is gone", Towns.read(x, "town 0"), -16);
        Towns.typeIn(x, "town 3;years 10;");
        Due.is("what was behind a word is gone", Towns.read(x, "town"), -14);
        Due.is("kind still", x.now(0), 5);
    }

    private static void readsWhatStands() {
        reads("town 0;", 1);
        reads("town0;", 1);
        reads("  town  5  ;  ", 1);
        reads("town 05;", 1);
        reads("town 0;pulls 0 1 2 3 4 5;", 2);
        reads("town 0;pulls 18;pulls 0 00;", 3);
        reads("town 0;pulls0 18;years99;years 1;", 4);
        reads("town 0;build 0 0;build5 5;string 0 0;string05 05;", 5);
        reads("town 0;years 01;", 2);
    }

    private static void readsFaults() {
        reads("", -10);
        reads("   ", -13);
        reads("town", -14);
        reads("town ", -15);
        reads("town 0", -16);
        reads("town 0 ", -17);
        reads("town 6;", -15);
        reads("town 005;", -15);
        reads("town 00;;", -18);
        reads(";", -10);
        reads("5", -10);
        reads(" towns 0;", -11);
        reads("tow", -10);
        reads("down 0;", -10);
        reads("towm 0;", -10);
        reads("town 0;guild 0 0;", -17);
        reads("town 0;strings 0 0;", -17);
        reads("town 0;year 1;", -17);
        reads("TOWN 0;", -10);
        reads("build 0 0;", -10);
        reads("years 1;town 0;", -10);
        reads("town town", -15);
        reads("town;", -14);
        reads("town 0 0;", -17);
        reads("town 0;;", -17);
        reads("town 0; town 1;", -18);
        reads("town 0;Build 0 0;", -17);
        reads("town 0;\tbuild 0 0;", -17);
        reads("town 0;bui", -17);
        reads("town 0;3", -17);
        reads("town 0;hut 0 0;", -17);
        reads("town 0,", -16);
        reads("town -1;", -15);
        reads("town a;", -15);
        reads("\0town 0;", -10);
    }

    private static void readsFaultsOfItems() {
        reads("town 0;pulls;", -22);
        reads("town 0;pulls", -22);
        reads("town 0;pulls 19;", -23);
        reads("town 0;pulls 0 1 2 3 4 5 6;", -35);
        reads("town 0;pulls 0 1 2 3 4 5 ", -35);
        reads("town 0;pulls 0 pulls 1;", -25);
        reads("town 0;pulls 0 123;", -25);
        reads("town 0;pulls 1,2;", -24);
        reads("town 0;years 1.", -24);
        reads("town 0;years 0;", -23);
        reads("town 0;years 100;", -23);
        reads("town 0;years;", -22);
        reads("town 0;years 1 1;", -25);
        reads("town 0;years 1", -24);
        reads("town 0;build 6 0;", -23);
        reads("town 0;build 0 6;", -25);
        reads("town 0;build 00;", -25);
        reads("town 0;build 0;", -24);
        reads("town 0;build 0", -24);
        reads("town 0;build 0 0", -26);
        reads("town 0;build 0 0 0;", -27);
        reads("town 0;build 0 0 build", -27);
        reads("town 0;string 6 0;", -24);
        reads("town 0;string 0 6;", -26);
        reads("town 0;string 0 999;", -26);
    }

    private static String five(String item) {
        return item + item + item + item + item;
    }

    private static void readsFullPlots() {
        String full = "town 0;" + five("build 1 0;");
        reads(full, 6);
        reads(full + "build 1 0;", -73);
        reads(full + "build 1 9;", -73);
        reads(full + "build 1", -73);
        reads(full + "string 1 0;", -74);
        reads(full + "build 2 0;", 7);
        // of five SHEDS the lowest bears 4: all fall, and there is a place again
        reads("town 0;" + five("build 1 3;") + "build 1 3;", 7);
    }

    private static void readTown() {
        LevelGone x = Towns.of(3, 7);
        x.member(1);
        x.note(0, 0, 0, 0);
        x.mark(0, 0, 0, 0, 0);
        x.build(5, 0, 0);
        x.image(0);
        x.chance(1, 0, 0);
        x.now(-1);
        String text = "town 1;build 0 0;years 3;pulls 18 0;build 2 1;string 2 0;";
        Due.is("read()", Towns.read(x, text), 6);
        Due.is("kind", x.now(0), 1);
        Due.is("off", x.now(1), 2);
        Due.is("year", x.now(2), 3);
        Due.is("storeys", x.count(0), 3);
        Due.is("built ahead of the years", x.of(0, 0, 1), 0);
        Due.is("built behind the years", x.of(2, 0, 1), 2);
        Due.is("its kind", x.of(2, 0, 0), 1);
        Due.is("by string", x.of(2, 1, 1), 0);
        Due.is("nothing to undo", x.undo(), -3);
        Due.is("no members", x.count(2), 0);
        Due.is("no notes", x.count(3), 0);
        Due.is("no marks", x.count(4), 0);
        Due.is("THE TEXT stays", x.count(6), text.length());
        Due.is("THE FRACTION stays", x.part(0), 0);
        Due.is("STATUS stays: BAD", x.status(0), 1);
        Due.is("STATUS: NO of undo", x.status(1), 1);
        Due.is("pull of year 0", x.pull(0, 0), 9);
        Due.is("pull of year 1", x.pull(1, 0), -9);
        Due.is("pull of year 2", x.pull(2, 0), 0);
        Due.is("read() again", x.read(), 6);
        Due.is("the image stays", x.from(0), 1);
        Due.is("the image's kind", x.now(0), 3);
    }

    /** A text may set PULLS, go on, and set some of them anew. */
    private static void readPulls() {
        LevelGone x = new LevelGone();
        Towns.read(x, "town 2;pulls 18 9 9 9 9 0;years 1;pulls 0;years 6;");
        // 1 nearer to 9, then to 0, 0, 0, 0, then to -9 twice
        Due.is("off", x.now(1), -2);
        Due.is("pull of year 0", x.pull(0, 0), -9);
        Due.is("pull of year 5", x.pull(5, 0), -9);
    }

    public static void main(String[] args) {
        newObject();
        twoObjects();
        town();
        pull();
        member();
        text();
        readsWhatStands();
        readsAnew();
        readsFaults();
        readsFaultsOfItems();
        readsFullPlots();
        readTown();
        readPulls();
        Due.end();
    }
}
