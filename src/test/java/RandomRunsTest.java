import java.util.Random;

/** Runs of calls, drawn by fixed seeds, on the program and on the model: both answer alike. */
public final class RandomRunsTest {
    // a step is up to ten calls, and of an object just 512 are told
    private static final int RUNS = 500, CALLS = 500;
    private static final String[] NAMES = {"trouble", "number", "night", "news", "taste", "hour"};
    private static final String[] WORDS = {"trouble", "number", "night", "news", "taste", "hour", "yields", "suits",
        "eases", "or", "and", "not", "(", ")", ";", "+", "-", "*", "<", "=", "0", "12", "1234", "12345", "tired", "#",
        "\n", "\t", "A", "\u00ff"};

    private final Due due;
    private final Random random;
    private final OtherHalfOfNight x = new OtherHalfOfNight();
    private final Model model = new Model();
    private final String run;
    private int calls;

    private RandomRunsTest(Due due, int seed) {
        this.due = due;
        random = new Random(seed);
        run = "run " + seed;
    }

    public static void main(String[] args) {
        Due due = new Due("RandomRunsTest");
        for (int seed = 0; seed < RUNS; seed++) {
            new RandomRunsTest(due, seed).go();
        }
        due.end();
    }

    private void go() {
        while (calls < CALLS) {
            step();
        }
    }

    private int draw(int from, int to) {
        return from + random.nextInt(to - from + 1);
    }

    /** Mostly from .. to, at times beside it, at times far off. */
    private int near(int from, int to) {
        int how = random.nextInt(24);
        if (how == 0) {
            return draw(from - 2, from - 1);
        }
        if (how == 1) {
            return draw(to + 1, to + 2);
        }
        if (how == 2 && random.nextInt(3) == 0) {
            return random.nextBoolean() ? random.nextInt() : random.nextBoolean() ? Integer.MAX_VALUE : Integer.MIN_VALUE;
        }
        if (how == 3) {
            return random.nextBoolean() ? from : to;
        }
        return draw(from, to);
    }

    private int who() {
        return near(0, Math.max(0, model.w.ones.size() - 1));
    }

    private void is(String call, long got, long want) {
        calls++;
        due.is(run + ": " + call, got, want);
    }

    private void step() {
        switch (random.nextInt(36)) {
            case 0, 1, 2 -> set();
            case 3, 4 -> wakes();
            case 5, 6 -> told();
            case 7 -> {
                int one = who();
                is("eased(" + one + ")", x.eased(one), model.eased(one));
            }
            case 8 -> {
                if (random.nextInt(4) == 0) {
                    text();
                }
            }
            case 9 -> feed(random.nextInt(8) == 0 ? near(0, 255) : draw(0, 4) == 0 ? ' ' : -1);
            case 10, 11 -> {
                int text = near(0, model.texts.size() - 1);
                is("force(" + text + ")", x.force(text), model.force(text));
            }
            case 12, 13 -> is("night()", x.night(), model.night());
            case 14 -> {
                int one = who();
                is("news(" + one + ")", x.news(one), model.news(one));
            }
            case 15 -> runs();
            case 16 -> {
                int one = who();
                is("sleeps(" + one + ")", x.sleeps(one), model.sleeps(one));
            }
            case 17, 18, 19 -> {
                int what = near(0, 5);
                is("pour(" + what + ")", x.pour(what), model.pour(what));
            }
            case 20, 21, 22 -> {
                int what = near(0, 5);
                is("best(" + what + ")", x.best(what), model.best(what));
            }
            case 23 -> blend();
            case 24, 25 -> tells();
            case 26 -> film();
            case 27 -> drawn();
            case 28 -> chance();
            case 29 -> images();
            case 30 -> {
                int what = near(0, 5);
                is("count(" + what + ")", x.count(what), model.count(what));
            }
            case 31 -> sheet();
            case 32, 33 -> cell();
            case 34 -> copy();
            default -> hosts();
        }
    }

    private void set() {
        int what = near(0, 6);
        int of = what >= 5 ? near(0, 5) : who();
        int most = new int[] {random.nextInt(3) == 0 ? 999 : 20, 23, 9, 99, 2, random.nextInt(3) == 0 ? 99 : 20, 9}[Math.floorMod(what, 7)];
        int v = near(0, most);
        is("set(" + what + ", " + of + ", " + v + ")", x.set(what, of, v), model.set(what, of, v));
    }

    private void wakes() {
        int kind = near(0, 5);
        int number = near(0, 9);
        int trouble = near(0, random.nextBoolean() ? 20 : 99);
        is("wakes(" + kind + ", " + number + ", " + trouble + ")", x.wakes(kind, number, trouble),
                model.wakes(kind, number, trouble));
    }

    private void told() {
        int what = near(0, 10);
        int of = what == 5 || what == 6 || what == 10 ? near(0, 5) : who();
        is("told(" + of + ", " + what + ")", x.told(of, what), model.told(of, what));
    }

    private void feed(int letter) {
        is("feed(" + letter + ")", x.feed(letter), model.feed(letter));
    }

    private void text() {
        if (model.texts.size() == 6 && random.nextInt(4) != 0) {
            return;
        }
        String text = "yields " + e(3) + ";suits " + e(2) + ";eases " + e(2) + ";";
        if (random.nextInt(3) == 0) {
            int at = random.nextInt(text.length());
            String word = WORDS[random.nextInt(WORDS.length)];
            text = text.substring(0, at) + " " + word + text.substring(Math.min(text.length(), at + random.nextInt(4)));
        }
        for (int i = 0; i < text.length() && calls < CALLS; i++) {
            feed(text.charAt(i));
        }
        is("text() of '" + text + "'", x.text(), model.text());
        is("count(3)", x.count(3), model.count(3));
        if (random.nextInt(3) != 0) {
            is("force the last", x.force(model.texts.size() - 1), model.force(model.texts.size() - 1));
        }
    }

    private String e(int depth) {
        int how = random.nextInt(depth > 0 ? 14 : 6);
        String blank = random.nextInt(3) == 0 ? " " : "";
        return switch (how) {
            case 0, 1 -> "" + random.nextInt(random.nextBoolean() ? 10 : 100);
            case 2, 3, 4, 5 -> NAMES[random.nextInt(6)] + blank;
            case 6 -> e(depth - 1) + "+" + blank + e(depth - 1);
            case 7 -> e(depth - 1) + blank + "-" + e(depth - 1);
            case 8 -> e(depth - 1) + "*" + e(depth - 1);
            case 9 -> e(depth - 1) + (random.nextBoolean() ? "<" : "=") + e(depth - 1);
            case 10 -> e(depth - 1) + (random.nextBoolean() ? " or " : " and ") + e(depth - 1);
            case 11 -> "(" + e(depth - 1) + ")";
            case 12 -> "-" + e(depth - 1);
            default -> "not " + e(depth - 1);
        };
    }

    private void runs() {
        int one = who();
        int cup = near(0, 5);
        int n = near(0, 40);
        int what = near(0, 2);
        is("run(" + one + ", " + cup + ", " + n + ", " + what + ")", x.run(one, cup, n, what),
                model.run(one, cup, n, what));
    }

    private void blend() {
        int one = who();
        int cup = near(0, 5);
        for (int part = 0; part < 2; part++) {
            is("blend(" + one + ", " + cup + ", " + part + ")", x.blend(one, cup, part), model.blend(one, cup, part));
        }
        int part = near(0, 1);
        is("blend(" + one + ", " + cup + ", " + part + ")", x.blend(one, cup, part), model.blend(one, cup, part));
    }

    private void tells() {
        int sheet = near(0, 3);
        int one = who();
        for (int what = 0; what < 8; what++) {
            is("tells(" + sheet + ", " + one + ", " + what + ")", x.tells(sheet, one, what),
                    model.tells(sheet, one, what));
        }
        int what = near(0, 7);
        is("tells(" + sheet + ", " + one + ", " + what + ")", x.tells(sheet, one, what), model.tells(sheet, one, what));
    }

    private void film() {
        int sheet = near(0, 3);
        int one = who();
        int n = near(0, random.nextBoolean() ? 4 : 20);
        is("film(" + sheet + ", " + one + ", " + n + ")", x.film(sheet, one, n), model.film(sheet, one, n));
        if (random.nextBoolean()) {
            tells();
        }
    }

    private void drawn() {
        int seed = random.nextInt();
        int n = near(0, 40);
        is("drawn(" + seed + ", " + n + ")", x.drawn(seed, n), model.drawn(seed, n));
    }

    private void chance() {
        int seed = random.nextInt(4) == 0 ? Integer.MAX_VALUE - 3 : random.nextInt();
        int m = near(1, 20);
        int k = random.nextInt(5) == 0 ? near(0, 9999) : Math.max(0, model.drawn(seed, 6));
        int part = near(0, 1);
        is("chance(" + seed + ", " + m + ", " + k + ", " + part + ")", x.chance(seed, m, k, part),
                model.chance(seed, m, k, part));
    }

    private void images() {
        if (random.nextBoolean()) {
            is("image()", x.image(), model.image());
        } else {
            is("back()", x.back(), model.back());
        }
    }

    private void sheet() {
        int sheet = near(0, 3);
        int sort = random.nextInt(3) == 0 ? near(-1, 2) : near(0, 1);
        int n = near(0, random.nextBoolean() ? 18 : 40);
        is("sheet(" + sheet + ", " + sort + ", " + n + ")", x.sheet(sheet, sort, n), model.sheet(sheet, sort, n));
    }

    private void cell() {
        int sheet = near(0, 3);
        int from = draw(0, 15);
        for (int i = 0; i < 6; i++) {
            int at = random.nextInt(4) == 0 ? near(0, 40) : from + i;
            int v = random.nextInt(6) == 0 ? near(-70000, 70000) : near(0, 9);
            is("cell(" + sheet + ", " + at + ", " + v + ")", x.cell(sheet, at, v), model.cell(sheet, at, v));
        }
    }

    private void copy() {
        int sheet = near(0, 3);
        int other = near(0, 3);
        int i = near(0, 12);
        int j = near(0, 12);
        int n = near(0, 12);
        is("copy(" + sheet + ", " + i + ", " + other + ", " + j + ", " + n + ")", x.copy(sheet, i, other, j, n),
                model.copy(sheet, i, other, j, n));
    }

    private void hosts() {
        int sheet = near(0, 3);
        int sort = near(0, 2);
        int from = near(0, 20);
        int n = near(0, 5);
        is("house(" + sheet + ", " + sort + ", " + from + ", " + n + ")", x.house(sheet, sort, from, n),
                model.house(sheet, sort, from, n));
        int one = who();
        int k = near(0, 5);
        is("taken(" + one + ", " + k + ")", x.taken(one, k), model.taken(one, k));
    }
}
