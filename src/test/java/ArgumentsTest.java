import java.util.function.Consumer;

/**
 * Each argument of each call: the last value that is let in and the first that isn't, on both sides, the least and
 * the greatest int; a call that is refused changes nothing.
 */
public final class ArgumentsTest {
    private static final Due due = new Due("ArgumentsTest");
    private static final int BAD = OtherHalfOfNight.BAD;
    private static final long NO = OtherHalfOfNight.NO;
    private static final int MISSING = -11, OUTSIDE = -12, UNLIKE = -13, BELOW = -14, NOBODY = -1000;
    private static final int LEAST = Integer.MIN_VALUE, MOST = Integer.MAX_VALUE;

    /** A call of which one argument is v. */
    private interface Call {
        long of(OtherHalfOfNight x, int v);
    }

    private final Twins twins;

    private ArgumentsTest(String named, Consumer<OtherHalfOfNight> life) {
        twins = new Twins(due, named, life);
    }

    public static void main(String[] args) {
        theTestSees();
        ArgumentsTest lived = new ArgumentsTest("lived", Twins::lived);
        lived.sets();
        lived.sleepless();
        lived.told();
        lived.texts();
        lived.nights();
        lived.poured();
        lived.tells();
        lived.seeds();
        lived.sheets();
        lived.items();
        lived.house();
        lived.whoever();
        for (int ones = 0; ones <= 5; ones++) {
            ofSoMany(ones);
        }
        due.end();
    }

    /** Else nothing would come of it that a refused call changes nothing. */
    private static void theTestSees() {
        Twins twins = new Twins(due, "seen", Twins::lived);
        twins.otherwise("night", x -> x.set(0, 0, 6), 5);
        twins.otherwise("hour", x -> x.set(1, 0, 20), 21);
        twins.otherwise("number", x -> x.set(2, 3, 6), 5);
        twins.otherwise("trouble", x -> x.set(3, 3, 51), 50);
        twins.otherwise("news", x -> x.set(4, 3, 1), 0);
        twins.otherwise("want", x -> x.set(5, 5, 11), 10);
        twins.otherwise("taste", x -> x.set(6, 5, 6), 5);
        twins.otherwise("wakes", x -> x.wakes(0, 0, 0), 4);
        twins.otherwise("feed", x -> x.feed(32), 26);
        twins.otherwise("text", x -> x.text(), 3);
        twins.otherwise("force", x -> x.force(1), 2);
        // 14 and 18, 14 behind them, and 10 in the girl's cup
        twins.otherwise("night", x -> x.night(), 56);
        twins.otherwise("news", x -> x.news(0), 29);
        twins.otherwise("image", x -> x.image(), 4);
        twins.otherwise("back", x -> x.back(), 3);
        twins.otherwise("film", x -> x.film(3, 0, 0), 0);
        twins.otherwise("sheet", x -> x.sheet(2, -1, 0), 1);
        twins.otherwise("sheet", x -> x.sheet(2, 1, 7), 1);
        twins.otherwise("sheet", x -> x.sheet(2, 2, 7), 1);
        twins.otherwise("sheet", x -> x.sheet(2, 2, 8), 1);
        for (int i = 0; i < 6; i++) {
            int at = i;
            twins.otherwise("cell " + at, x -> x.cell(0, at, 77), 1);
        }
        twins.otherwise("copy", x -> x.copy(2, 0, 2, 6, 1), 1);
        twins.otherwise("house", x -> x.house(0, 0, 0, 2), 1);
    }

    /** Let in from .. to, else refused so, below and above. */
    private void edges(String call, int from, int to, long below, long above, Call asked) {
        for (int v : new int[] {from, to}) {
            long answer = asked.of(twins.one(), v);
            due.is(call + " lets in " + v, answer == below || answer == above ? answer : 0, 0);
        }
        if (from > LEAST) {
            twins.same(call + " of " + (from - 1), x -> asked.of(x, from - 1), below);
            twins.same(call + " of the least", x -> asked.of(x, LEAST), below);
        }
        if (to < MOST) {
            twins.same(call + " of " + (to + 1), x -> asked.of(x, to + 1), above);
            twins.same(call + " of the most", x -> asked.of(x, MOST), above);
        }
    }

    private void edges(String call, int from, int to, long refused, Call asked) {
        edges(call, from, to, refused, refused, asked);
    }

    private void sets() {
        int[] most = {999, 23, 9, 99, 99, 99, 9};
        edges("set what", 0, 6, BAD, (x, v) -> x.set(v, 0, 0));
        for (int what = 0; what <= 6; what++) {
            int w = what;
            edges("set v of " + w, 0, most[w], BAD, (x, v) -> x.set(w, 0, v));
        }
        edges("set night, of", LEAST, MOST, BAD, (x, v) -> x.set(0, v, 1));
        edges("set hour, of", LEAST, MOST, BAD, (x, v) -> x.set(1, v, 1));
        for (int what = 2; what <= 6; what++) {
            int w = what;
            edges("set of, " + w, 0, w < 5 ? 3 : 5, BAD, (x, v) -> x.set(w, v, 1));
        }
    }

    private void sleepless() {
        edges("wakes kind", 0, 5, BAD, (x, v) -> x.wakes(v, 0, 0));
        edges("wakes number", 0, 9, BAD, (x, v) -> x.wakes(0, v, 0));
        edges("wakes trouble", 0, 99, BAD, (x, v) -> x.wakes(0, 0, v));
    }

    private void told() {
        edges("told what", 0, 10, BAD, (x, v) -> x.told(0, v));
        edges("told night of", LEAST, MOST, BAD, (x, v) -> x.told(v, 0));
        edges("told hour of", LEAST, MOST, BAD, (x, v) -> x.told(v, 1));
        for (int what = 2; what <= 10; what++) {
            int w = what;
            edges("told of, " + w, 0, w == 5 || w == 6 || w == 10 ? 5 : 3, BAD, (x, v) -> x.told(v, w));
        }
        edges("eased", 0, 3, NOBODY, (x, v) -> x.eased(v));
        edges("count", 0, 5, BAD, (x, v) -> x.count(v));
    }

    private void texts() {
        edges("feed", 0, 255, BAD, (x, v) -> x.feed(v));
        edges("force", 0, 2, BAD, (x, v) -> x.force(v));
    }

    private void nights() {
        edges("news", 0, 3, BAD, (x, v) -> x.news(v));
        edges("sleeps", 0, 3, BAD, (x, v) -> x.sleeps(v));
        edges("run what", 0, 2, BAD, (x, v) -> x.run(0, 0, 1, v));
        for (int what = 0; what < 3; what++) {
            int w = what;
            edges("run one, " + w, 0, 3, BAD, (x, v) -> x.run(v, 0, 1, w));
            edges("run cup, " + w, 0, 5, BAD, (x, v) -> x.run(0, v, 1, w));
            edges("run n, " + w, 0, 40, BAD, (x, v) -> x.run(0, 0, v, w));
        }
    }

    private void poured() {
        edges("pour", 0, 5, BAD, (x, v) -> x.pour(v));
        edges("best", 0, 5, BAD, (x, v) -> x.best(v));
        edges("blend part", 0, 1, NO, (x, v) -> x.blend(0, 0, v));
        for (int part = 0; part < 2; part++) {
            int p = part;
            edges("blend one, " + p, 0, 3, NO, (x, v) -> x.blend(v, 0, p));
            edges("blend cup, " + p, 0, 5, NO, (x, v) -> x.blend(0, v, p));
            twins.same("blend, " + p, x -> x.blend(3, 5, p), 1);
        }
    }

    private void tells() {
        edges("tells what", 0, 7, BAD, (x, v) -> x.tells(0, 0, v));
        for (int what = 0; what <= 7; what++) {
            int w = what;
            edges("tells sheet, " + w, 0, 3, BAD, (x, v) -> x.tells(v, 0, w));
            edges("tells one, " + w, 0, 3, BAD, (x, v) -> x.tells(0, v, w));
            twins.same("tells of a missing sheet, " + w, x -> x.tells(3, 0, w), MISSING);
        }
        edges("film sheet", 0, 3, BAD, (x, v) -> x.film(v, 0, 1));
        edges("film one", 0, 3, BAD, (x, v) -> x.film(0, v, 1));
        edges("film n", 0, 20, BAD, (x, v) -> x.film(0, 0, v));
    }

    private void seeds() {
        edges("drawn seed", LEAST, MOST, BAD, (x, v) -> x.drawn(v, 1));
        edges("drawn n", 0, 40, BAD, (x, v) -> x.drawn(1, v));
        edges("chance part", 0, 1, NO, (x, v) -> x.chance(1, 1, 0, v));
        for (int part = 0; part < 2; part++) {
            int p = part;
            edges("chance seed, " + p, LEAST, MOST, NO, (x, v) -> x.chance(v, 20, 9, p));
            edges("chance m, " + p, 1, 20, NO, (x, v) -> x.chance(1, v, 0, p));
            edges("chance k, " + p, 0, 9999, NO, (x, v) -> x.chance(1, 1, v, p));
        }
    }

    private void sheets() {
        for (int n : new int[] {0, 40}) {
            edges("sheet sheet", 0, 3, BAD, (x, v) -> x.sheet(v, 0, n));
            edges("sheet sort", -1, 2, BAD, (x, v) -> x.sheet(0, v, n));
        }
        for (int sort = 0; sort < 3; sort++) {
            int s = sort;
            edges("sheet n, " + s, 0, 40, BELOW, BAD, (x, v) -> x.sheet(0, s, v));
        }
        edges("sheet missing, n", LEAST, MOST, BAD, BELOW, (x, v) -> x.sheet(0, -1, v));
        edges("sheet missing, sheet", 0, 3, BAD, (x, v) -> x.sheet(v, -1, 0));
    }

    private void items() {
        edges("cell sheet", 0, 3, BAD, (x, v) -> x.cell(v, 0, 1));
        twins.same("cell of a missing sheet", x -> x.cell(3, 0, 1), MISSING);
        int[] sizes = {6, 3, 7};
        for (int sheet = 0; sheet < 3; sheet++) {
            int s = sheet;
            int size = sizes[s];
            edges("cell i, " + s, 0, size - 1, OUTSIDE, (x, v) -> x.cell(s, v, 1));
            edges("cell v, " + s, LEAST, MOST, OUTSIDE, (x, v) -> x.cell(s, 1, v));
            for (int n = 0; n <= size; n++) {
                int many = n;
                edges("copy i, " + s + ", n " + n, 0, size - n, OUTSIDE, (x, v) -> x.copy(s, v, s, 0, many));
                edges("copy j, " + s + ", n " + n, 0, size - n, OUTSIDE, (x, v) -> x.copy(s, 0, s, v, many));
                edges("copy n, i " + n, 0, size - n, OUTSIDE, (x, v) -> x.copy(s, many, s, 0, v));
                edges("copy n, j " + n, 0, size - n, OUTSIDE, (x, v) -> x.copy(s, 0, s, many, v));
            }
        }
        edges("copy sheet", 0, 3, BAD, (x, v) -> x.copy(v, 0, 0, 0, 1));
        edges("copy other", 0, 3, BAD, (x, v) -> x.copy(0, 0, v, 0, 1));
    }

    private void house() {
        edges("house sheet", 0, 3, BAD, (x, v) -> x.house(v, 0, 0, 1));
        edges("house sort", 0, 2, BAD, (x, v) -> x.house(0, v, 0, 1));
        edges("house sort, none", 0, 2, BAD, (x, v) -> x.house(0, v, 0, 0));
        // of seven items two are three by three: of more it is outside, and those two came
        edges("house n", 0, 5, BAD, (x, v) -> x.house(2, 2, 0, v));
        edges("house from", 0, 3, OUTSIDE, (x, v) -> x.house(0, 0, v, 1));
        twins.same("house from below, two", x -> x.house(0, 0, -1, 2), OUTSIDE);
        twins.same("house from far below, two", x -> x.house(0, 0, LEAST, 2), OUTSIDE);
        twins.same("house from far above, two", x -> x.house(0, 0, MOST, 2), OUTSIDE);
        edges("house from, none", LEAST, MOST, OUTSIDE, (x, v) -> x.house(0, 0, v, 0));
        edges("taken one", 0, 3, MISSING, (x, v) -> x.taken(v, 0));
        edges("taken k", 0, 5, BAD, (x, v) -> x.taken(0, v));
    }

    /** What is asked in thought, or merely told, changes nothing. */
    private void whoever() {
        for (int v = 0; v <= 10; v++) {
            int what = v;
            twins.same("told " + what, x -> x.told(1, what) >= 0 ? 0 : 1, 0);
        }
        twins.same("eased", x -> x.eased(0), 1);
        for (int v = 0; v < 6; v++) {
            int what = v;
            twins.same("pour " + what, x -> x.pour(what) >= 0 ? 0 : 1, 0);
            twins.same("best " + what, x -> x.best(what) >= 0 ? 0 : 1, 0);
            twins.same("count " + what, x -> x.count(what) >= 0 ? 0 : 1, 0);
            twins.same("taken for " + what, x -> x.taken(3, what) == (what % 2 == 0 ? 5 : UNLIKE) ? 0 : 1, 0);
        }
        for (int v = 0; v < 3; v++) {
            int what = v;
            twins.same("run " + what, x -> x.run(0, 0, 40, what) >= 0 ? 0 : 1, 0);
        }
        twins.same("sleeps", x -> x.sleeps(0), 29);
        for (int v = 0; v <= 7; v++) {
            int what = v;
            twins.same("tells " + what, x -> x.tells(1, 0, what) >= OtherHalfOfNight.NONE ? 0 : 1, 0);
        }
        twins.same("drawn", x -> x.drawn(3, 40) > 0 ? 1 : 0, 1);
        twins.same("chance", x -> x.chance(3, 20, 1, 0), 1);
        twins.same("house of none", x -> x.house(2, 2, 0, 0), 0);
        twins.same("copy of none", x -> x.copy(0, 0, 0, 6, 0), 0);
        twins.same("copy onto the same place", x -> x.copy(0, 2, 0, 2, 4), 4);
        twins.same("force what is the rule", x -> x.force(2), 2);
    }

    private static void so(OtherHalfOfNight x, int ones) {
        for (int one = 0; one < ones; one++) {
            x.wakes(0, one, 9);
        }
        x.sheet(0, 0, 1);
    }

    /** Who is none such where so many are: of nobody, and one behind the last. */
    private static void ofSoMany(int ones) {
        ArgumentsTest many = new ArgumentsTest(ones + " sleepless", x -> so(x, ones));
        int[] none = {LEAST, -1, ones, ones + 1, 5, 6, MOST};
        for (int one : none) {
            if (one >= 0 && one < ones) {
                continue;
            }
            many.ofNoneSuch(one);
        }
        for (int one = 0; one < ones; one++) {
            OtherHalfOfNight x = many.twins.one();
            due.is("number", x.told(one, 2), one);
            due.is("yields", x.told(one, 8), 10);
            due.is("eased", x.eased(one), 0);
            due.is("set", x.set(3, one, 8), 9);
            due.is("run", x.run(one, 0, 1, 0), 8);
            due.is("sleeps", x.sleeps(one), OtherHalfOfNight.NONE);
            due.is("blend", x.blend(one, one, 0), one == ones - 1 ? 1 : 9);
            due.is("film", x.film(1, one, 1), 9);
            due.is("tells", x.tells(1, one, 7), 1 << one);
            due.is("taken", x.taken(one, 0), one);
            due.is("news", x.news(one), 8);
        }
    }

    private void ofNoneSuch(int one) {
        for (int what : new int[] {2, 3, 4}) {
            twins.same("set " + what + " of " + one, x -> x.set(what, one, 0), BAD);
        }
        for (int what : new int[] {2, 3, 4, 7, 8, 9}) {
            twins.same("told " + what + " of " + one, x -> x.told(one, what), BAD);
        }
        twins.same("eased " + one, x -> x.eased(one), NOBODY);
        twins.same("news " + one, x -> x.news(one), BAD);
        twins.same("run " + one, x -> x.run(one, 0, 0, 1), BAD);
        twins.same("sleeps " + one, x -> x.sleeps(one), BAD);
        twins.same("blend " + one, x -> x.blend(one, 0, 0), NO);
        twins.same("tells of " + one, x -> x.tells(0, one, 0), BAD);
        twins.same("film of " + one, x -> x.film(0, one, 1), BAD);
        twins.same("taken " + one, x -> x.taken(one, 0), MISSING);
    }
}
