/** Promises 16 to 19 at their bounds: none, one, 20 and 21 NIGHTS told, each bit, seeds that wrap, 0 and all of m. */
public final class TellsEdgesTest {
    private static final Due due = new Due("TellsEdgesTest");
    private static final int BAD = OtherHalfOfNight.BAD, NONE = OtherHalfOfNight.NONE;
    private static final long NO = OtherHalfOfNight.NO;
    private static final int LEAST = Integer.MIN_VALUE, MOST = Integer.MAX_VALUE;
    private static final int ALL_HOURS = (1 << 24) - 1;

    public static void main(String[] args) {
        nothingTold();
        firstOtherwise();
        twentyAndOneMore();
        eachKind();
        eachNumber();
        eachTrouble();
        eachHour();
        eachText();
        eachOfFive();
        itemsBySort();
        nightsAsTheyBegin();
        films();
        filmsOverRows();
        whoIsDrawn();
        drawnBySeeds();
        drawnNewsCounts();
        drawnNights();
        chances();
        chancesWrap();
        due.end();
    }

    private static void tells(String when, OtherHalfOfNight x, int sheet, int one, int... wants) {
        for (int what = 0; what < wants.length; what++) {
            due.is(when + ": tells " + what, x.tells(sheet, one, what), wants[what]);
        }
    }

    private static void nothingTold() {
        for (int sort = 0; sort < 3; sort++) {
            OtherHalfOfNight x = new OtherHalfOfNight();
            x.sheet(sort, sort, 0);
            x.wakes(5, 9, 99);
            tells("nothing told", x, sort, 0, NONE, 63, 1023, 100, 0, ALL_HOURS, 1, 1);
            for (int one = 1; one < 5; one++) {
                x.wakes(4, 0, 0);
            }
            for (int text = 1; text < 6; text++) {
                Due.text(x, "yields " + text + ";suits 0;eases 0;");
            }
            tells("nothing told, five, six texts", x, sort, 4, NONE, 63, 1023, 100, 0, ALL_HOURS, 63, 31);
        }
    }

    private static OtherHalfOfNight falling() {
        OtherHalfOfNight x = Due.ruledBy("yields trouble;suits 1;eases 1;");
        x.wakes(0, 3, 50);
        return x;
    }

    private static void falls(OtherHalfOfNight x, int sheet, int sort, int size) {
        x.sheet(sheet, sort, size);
        for (int i = 0; i < size; i++) {
            x.cell(sheet, i, 50 - i);
        }
    }

    private static void firstOtherwise() {
        for (int size : new int[] {1, 2, 19, 20}) {
            OtherHalfOfNight x = falling();
            falls(x, 0, 0, size);
            due.is("all of " + size + " is so", x.tells(0, 0, 0), NONE);
            for (int i = 0; i < size; i++) {
                for (int beside : new int[] {-1, 1}) {
                    x.cell(0, i, 50 - i + beside);
                    due.is("item " + i + " of " + size, x.tells(0, 0, 0), i);
                }
                x.cell(0, i, 50 - i);
            }
            x.cell(0, size - 1, 0);
            x.cell(0, 0, 0);
            due.is("the first of two", x.tells(0, 0, 0), 0);
        }
    }

    private static void twentyAndOneMore() {
        for (int sort = 0; sort < 3; sort++) {
            OtherHalfOfNight x = falling();
            falls(x, 0, sort, 20);
            tells("20", x, 0, 0, NONE, 1 | 32, 1023, 1, 50, ALL_HOURS, 2, 1);
            falls(x, 0, sort, 21);
            tells("21", x, 0, 0, BAD, BAD, BAD, BAD, BAD, BAD, BAD, BAD);
            x.sheet(0, sort, 40);
            tells("40", x, 0, 0, BAD, BAD, BAD, BAD, BAD, BAD, BAD, BAD);
            x.sheet(0, -1, 0);
            tells("missing", x, 0, 0, -11, -11, -11, -11, -11, -11, -11, -11);
        }
    }

    private static void kinds(int night, int hour, int news, int told, int bits) {
        OtherHalfOfNight x = Due.ruledBy("yields 30;suits 1;eases 0;");
        x.wakes(0, 5, 9);
        x.set(0, 0, night);
        x.set(1, 0, hour);
        x.set(4, 0, news);
        Due.row(x, 3, 0, told);
        due.is("kinds that yield " + told, x.tells(3, 0, 1), bits);
        due.is("in thought", x.told(0, 7), 0);
    }

    private static void eachKind() {
        kinds(1, 0, 1, 30, 1);
        kinds(1, 0, 0, 30, 1 | 32);
        kinds(0, 0, 0, 30, 1 | 2 | 32);
        kinds(1, 0, 0, 35, 2);
        kinds(1, 10, 0, 60, 4);
        kinds(1, 11, 0, 60, 4 | 16);
        kinds(1, 11, 0, 20, 8);
        kinds(1, 10, 0, 0, 16);
        kinds(1, 11, 0, 0, 0);
        kinds(1, 11, 1, 0, 32);
        kinds(1, 10, 1, 0, 16 | 32);
        kinds(1, 10, 0, 31, 0);
        // by what one is eased, too: a clerk, a lady, a sleeper of 9 less 3, 2, 1 ..
        OtherHalfOfNight x = Due.ruledBy("yields trouble;suits 1;eases 3;");
        x.wakes(0, 5, 9);
        x.set(0, 0, 7);
        int[][] rows = {{9, 6, 3, 0}, {14, 8, 12, 6}, {18, 18, 18, 18}, {14, 10, 14, 8}, {0, 0, 0, 0}, {9, 6, 9, 6}};
        int[] bits = {1 | 32, 2, 4, 8, 16, 0};
        for (int i = 0; i < rows.length; i++) {
            Due.row(x, 0, 2, rows[i]);
            due.is("kinds of row " + i, x.tells(0, 0, 1), bits[i]);
        }
    }

    private static void eachNumber() {
        OtherHalfOfNight x = Due.ruledBy("yields number+1;suits 1;eases 0;");
        x.wakes(0, 4, 9);
        for (int number = 0; number <= 9; number++) {
            Due.row(x, 0, 1, number + 1);
            due.is("number " + number, x.tells(0, 0, 2), 1 << number);
        }
        for (int none : new int[] {0, 11, -1}) {
            Due.row(x, 0, 1, none);
            due.is("no number", x.tells(0, 0, 2), 0);
        }
        due.is("in thought", x.told(0, 2), 4);
    }

    private static void eachTrouble() {
        OtherHalfOfNight x = Due.ruledBy("yields trouble;suits 1;eases 0;");
        x.wakes(0, 4, 9);
        for (int trouble = 0; trouble <= 99; trouble++) {
            Due.row(x, 0, 2, trouble);
            due.is("one trouble", x.tells(0, 0, 3), 1);
            due.is("trouble " + trouble, x.tells(0, 0, 4), trouble);
        }
        for (int none : new int[] {-1, 100, LEAST, MOST}) {
            Due.row(x, 0, 2, none);
            due.is("no trouble", x.tells(0, 0, 3), 0);
            due.is("no least", x.tells(0, 0, 4), NONE);
        }
        due.is("in thought", x.told(0, 3), 9);
        OtherHalfOfNight y = Due.ruledBy("yields 1+(trouble<50)+(98<trouble)*5;suits 1;eases 0;");
        y.wakes(0, 4, 9);
        int[][] rows = {{0, 1, 0}, {2, 49, 1}, {1, 49, 50}, {6, 1, 99}, {3, 0, NONE}};
        for (int[] row : rows) {
            Due.row(y, 0, 0, row[0]);
            due.is("troubles of " + row[0], y.tells(0, 0, 3), row[1]);
            due.is("the least of " + row[0], y.tells(0, 0, 4), row[2]);
        }
    }

    private static void eachHour() {
        OtherHalfOfNight x = Due.ruledBy("yields hour+1;suits 1;eases 0;");
        x.wakes(0, 4, 9);
        x.set(1, 0, 7);
        for (int hour = 0; hour <= 23; hour++) {
            Due.row(x, 0, 0, hour + 1);
            due.is("hour " + hour, x.tells(0, 0, 5), 1 << hour);
        }
        for (int none : new int[] {0, 25}) {
            Due.row(x, 0, 0, none);
            due.is("no hour", x.tells(0, 0, 5), 0);
        }
        due.is("in thought", x.told(0, 1), 7);
        OtherHalfOfNight girl = new OtherHalfOfNight();
        girl.wakes(4, 4, 9);
        Due.row(girl, 0, 0, 20);
        due.is("a girl's hours", girl.tells(0, 0, 5), 0xfff800);
        Due.row(girl, 0, 0, 0);
        due.is("a girl's other hours", girl.tells(0, 0, 5), 0x7ff);
    }

    private static void eachText() {
        OtherHalfOfNight x = new OtherHalfOfNight();
        x.wakes(0, 4, 9);
        for (int texts = 1; texts <= 6; texts++) {
            for (int text = 0; text < 6; text++) {
                Due.row(x, 0, 0, 10 + text);
                due.is("text " + text + " of " + texts, x.tells(0, 0, 6), text < texts ? 1 << text : 0);
            }
            Due.row(x, 0, 0, 9);
            due.is("no text", x.tells(0, 0, 6), 0);
            if (texts < 6) {
                x.force(Due.text(x, "yields " + (10 + texts) + ";suits 1;eases 0;"));
            }
        }
        due.is("in thought", x.count(5), 5);
    }

    private static void eachOfFive() {
        OtherHalfOfNight x = Due.ruledBy("yields trouble;suits 1;eases 0;");
        for (int ones = 1; ones <= 5; ones++) {
            x.wakes(0, 0, 10 + ones);
            for (int one = 0; one < 5; one++) {
                Due.row(x, 0, 0, 11 + one);
                due.is("number " + one + " of " + ones, x.tells(0, 0, 7), one < ones ? 1 << one : 0);
            }
        }
        Due.row(x, 0, 0, 0);
        due.is("nobody", x.tells(0, 4, 7), 0);
        for (int one = 0; one < 5; one++) {
            x.set(3, one, 0);
        }
        due.is("all", x.tells(0, 4, 7), 31);
    }

    private static void itemsBySort() {
        OtherHalfOfNight x = Due.ruledBy("yields trouble;suits 1;eases 0;");
        x.wakes(0, 4, 7);
        int[] values = {7, 7 + 256, 7 - 256, 7 + 65536, 7 - 65536, 7 + (1 << 24), LEAST + 7, MOST - 248, 7 + 128, -7, 7 + 255};
        boolean[][] so = {{true, true, true, true, true, true, true, true, false, false, false},
            {true, false, false, true, true, true, true, false, false, false, false},
            {true, false, false, false, false, false, false, false, false, false, false}};
        for (int sort = 0; sort < 3; sort++) {
            for (int i = 0; i < values.length; i++) {
                Due.row(x, 1, sort, values[i]);
                due.is("sort " + sort + ", " + values[i], x.tells(1, 0, 0), so[sort][i] ? NONE : 0);
                due.is("sort " + sort + ", " + values[i], x.tells(1, 0, 4), so[sort][i] ? 7 : sort == 0 && i == 10 ? 6 : NONE);
            }
        }
    }

    private static void nightsAsTheyBegin() {
        OtherHalfOfNight x = Due.ruledBy("yields 1+night*(night<60)+(night=1018)*50;suits 1;eases 0;");
        x.wakes(0, 4, 7);
        x.set(0, 0, 5);
        Due.row(x, 0, 0, 6, 7, 8);
        due.is("the first is of the night that is", x.tells(0, 0, 0), NONE);
        due.is("film", x.film(1, 0, 3), 6 + 7 + 8);
        x.set(0, 0, 999);
        x.sheet(0, 0, 20);
        for (int i = 0; i < 20; i++) {
            x.cell(0, i, 1);
        }
        due.is("night 1018 is the 20th", x.tells(0, 0, 0), 19);
        due.is("film", x.film(1, 0, 20), 70);
        due.is("film", x.film(1, 0, 19), 19);
        // what is eased counts from the second night on
        OtherHalfOfNight y = Due.ruledBy("yields trouble;suits 1;eases 2;");
        y.wakes(3, 4, 7);
        y.set(0, 0, 5);
        Due.row(y, 0, 0, 11, 6, 9, 6, 9);
        // nights 5, 6, 7: 7, 6, 5; behind 7 one has 6, then 5
        due.is("a debtor from night 5 on", y.tells(0, 0, 0), NONE);
        due.is("a debtor's film", y.film(1, 0, 5), 41);
    }

    private static int size(OtherHalfOfNight x, int sheet) {
        int size = -1;
        while (size < 41 && x.copy(sheet, 0, sheet, 0, size + 1) == size + 1) {
            size++;
        }
        return size;
    }

    private static void films() {
        for (int n : new int[] {0, 1, 2, 19, 20}) {
            OtherHalfOfNight x = falling();
            int all = 0;
            for (int i = 0; i < n; i++) {
                all += 50 - i;
            }
            due.is("film of " + n, x.film(3, 0, n), all);
            due.is("its size", size(x, 3), n);
            due.is("bytes", x.house(3, 0, 0, 0), 0);
            due.is("as it is", x.tells(3, 0, 0), NONE);
            falls(x, 2, 0, n);
            due.is("as it is", x.tells(2, 0, 0), NONE);
            due.is("in thought", x.told(0, 3), 50);
            due.is("in thought", x.count(2), 0);
        }
        OtherHalfOfNight x = Due.ruledBy("yields 99;suits 1;eases 0;");
        x.wakes(0, 0, 1);
        due.is("the most", x.film(0, 0, 20), 1980);
        x.set(3, 0, 0);
        due.is("nothing", x.film(0, 0, 20), 0);
    }

    private static void filmsOverRows() {
        for (int sort = -1; sort < 3; sort++) {
            for (int n : new int[] {0, 3}) {
                OtherHalfOfNight x = falling();
                x.sheet(1, sort, 40);
                for (int i = 0; i < 40; i++) {
                    x.cell(1, i, 77);
                }
                due.is("film over sort " + sort, x.film(1, 0, n), n == 0 ? 0 : 147);
                due.is("its size", size(x, 1), n);
                due.is("bytes", x.house(1, 0, 0, 0), 0);
                due.is("no shorts", x.house(1, 1, 0, 0), -13);
                due.is("no ints", x.house(1, 2, 0, 0), -13);
                due.is("another sheet stays", x.cell(0, 0, 0), -11);
            }
        }
        OtherHalfOfNight x = falling();
        Due.row(x, 1, 2, 1, 2, 3);
        for (int n : new int[] {-1, 21, LEAST, MOST}) {
            due.is("n", x.film(1, 0, n), BAD);
            due.is("the row stays", x.house(1, 2, 0, 0), 0);
            due.is("its size stays", size(x, 1), 3);
        }
    }

    /** (z >>> 9) % 8 of the first z, by a long. */
    private static int first(int seed) {
        long z = (seed * 1103515245L + 12345L) & 0xffffffffL;
        return (int) (z / 512 % 8);
    }

    private static final int[] TROUBLES = {1, 2, 4, 8, 16};

    private static OtherHalfOfNight ones(int many) {
        OtherHalfOfNight x = Due.ruledBy("yields trouble;suits 1;eases 0;");
        for (int one = 0; one < many; one++) {
            x.wakes(0, 0, TROUBLES[one]);
        }
        return x;
    }

    private static void whoIsDrawn() {
        // by hand: of seed 0 z is 12345, of seed 1 1103527590, of seed 2 2207042835 (below 0 as an int)
        due.is("12345 / 512 is 24", first(0), 0);
        due.is("1103527590 / 512 is 2155327", first(1), 7);
        due.is("2207042835 / 512 is 4310630", first(2), 6);
        for (int ones = 0; ones <= 5; ones++) {
            OtherHalfOfNight x = ones(ones);
            int all = (1 << ones) - 1;
            for (int seed = -10; seed <= 10; seed++) {
                int who = first(seed);
                due.is("who is drawn by " + seed + " of " + ones, x.drawn(seed, 1), who < ones ? all - TROUBLES[who] : all);
            }
            for (int seed : new int[] {LEAST, LEAST + 1, LEAST + 2, MOST, MOST - 1, MOST - 2, 1 << 30, -(1 << 30)}) {
                int who = first(seed);
                due.is("who is drawn by " + seed + " of " + ones, x.drawn(seed, 1), who < ones ? all - TROUBLES[who] : all);
            }
        }
    }

    private static void drawnBySeeds() {
        for (int seed : new int[] {LEAST, -1, 0, 1, MOST}) {
            OtherHalfOfNight x = ones(5);
            long z = seed & 0xffffffffL;
            int left = 31;
            int all = 0;
            for (int n = 0; n <= 40; n++) {
                due.is("drawn by " + seed + ", " + n, x.drawn(seed, n), all);
                z = (z * 1103515245L + 12345L) & 0xffffffffL;
                int who = (int) (z / 512 % 8);
                left &= who < 5 ? ~TROUBLES[who] : 31;
                all += left;
            }
            due.is("41", x.drawn(seed, 41), BAD);
            due.is("-1", x.drawn(seed, -1), BAD);
        }
    }

    /** Who has NEWS in thought has it once more there, and less is poured by it; a girl has trouble again. */
    private static void drawnNewsCounts() {
        for (int had : new int[] {0, 97, 98, 99}) {
            OtherHalfOfNight x = Due.ruledBy("yields 1+(100-news)*(90<news)+news*(news<91);suits 1;eases 0;");
            x.wakes(4, 9, 9);
            x.set(1, 0, 11);
            x.set(4, 0, had);
            long z = 5;
            int news = had;
            int all = 0;
            for (int n = 0; n <= 40; n++) {
                due.is("a girl that had news " + had + ", " + n, x.drawn(5, n), all);
                z = (z * 1103515245L + 12345L) & 0xffffffffL;
                boolean drawn = z / 512 % 8 == 0;
                news = drawn ? Math.min(99, news + 1) : news;
                all += drawn ? 0 : 2 * (1 + (news > 90 ? 100 - news : news));
            }
            due.is("in thought", x.told(0, 4), had);
            due.is("in thought", x.told(0, 3), 9);
        }
    }

    private static void drawnNights() {
        OtherHalfOfNight x = Due.ruledBy("yields 1+(night=1000)*4+(night=1038)*8;suits 1;eases 0;");
        x.wakes(0, 0, 9);
        x.set(0, 0, 999);
        int seed = 0;
        // a seed by which number 0 is not drawn in 40 nights
        while (!isSpared(seed)) {
            seed++;
        }
        due.is("1 night", x.drawn(seed, 1), 1);
        due.is("2 nights", x.drawn(seed, 2), 6);
        due.is("39 nights", x.drawn(seed, 39), 43);
        due.is("40 nights", x.drawn(seed, 40), 52);
        due.is("none", x.drawn(seed, 0), 0);
        due.is("6 nights", x.chance(seed, 1, 10, 0), 1);
        due.is("no more than 6 nights", x.chance(seed, 1, 11, 0), 0);
        due.is("in thought", x.count(2), 999);
    }

    private static boolean isSpared(int seed) {
        long z = seed & 0xffffffffL;
        for (int i = 0; i < 40; i++) {
            z = (z * 1103515245L + 12345L) & 0xffffffffL;
            if (z / 512 % 8 == 0) {
                return false;
            }
        }
        return true;
    }

    private static void chance(OtherHalfOfNight x, int seed, int m, int k, long above, long below) {
        String call = "chance(" + seed + ", " + m + ", " + k + ")";
        due.is(call + " above", x.chance(seed, m, k, 0), above);
        due.is(call + " below", x.chance(seed, m, k, 1), below);
    }

    private static void chances() {
        OtherHalfOfNight x = ones(5);
        for (int seed = -3; seed < 10; seed++) {
            int drawn = x.drawn(seed, 6);
            chance(x, seed, 1, drawn - 1, 1, 1);
            chance(x, seed, 1, drawn, 1, 1);
            chance(x, seed, 1, drawn + 1, 0, 1);
        }
        chance(x, 4, 20, 0, 1, 1);
        chance(x, 4, 20, 9999, 0, 1);
        OtherHalfOfNight nobody = new OtherHalfOfNight();
        chance(nobody, 4, 1, 0, 1, 1);
        chance(nobody, 4, 20, 0, 1, 1);
        chance(nobody, 4, 20, 1, 0, 1);
        chance(nobody, 4, 0, 0, NO, NO);
        chance(nobody, 4, 21, 0, NO, NO);
        chance(nobody, 4, -1, 0, NO, NO);
        chance(nobody, 4, 1, -1, NO, NO);
        chance(nobody, 4, 1, 10000, NO, NO);
        // each fraction of m that there is, in lowest terms
        int[] ranked = new int[20];
        for (int i = 0; i < 20; i++) {
            ranked[i] = x.drawn(100 + i, 6);
        }
        for (int m = 1; m <= 20; m++) {
            for (int i = 0; i < m; i += 3) {
                int enough = 0;
                for (int j = 0; j < m; j++) {
                    enough += ranked[j] >= ranked[i] ? 1 : 0;
                }
                int by = m;
                while (enough % by != 0 || m % by != 0) {
                    by--;
                }
                due.is("above", x.chance(100, m, ranked[i], 0), enough / by);
                due.is("below", x.chance(100, m, ranked[i], 1), m / by);
            }
        }
    }

    private static void chancesWrap() {
        OtherHalfOfNight x = ones(5);
        int last = x.drawn(MOST, 6);
        int next = x.drawn(LEAST, 6);
        int k = Math.max(last, next);
        chance(x, MOST, 1, last, 1, 1);
        due.is("they are unlike", last == next ? 0 : 1, 1);
        chance(x, MOST, 2, k, 1, 2);
        chance(x, MOST, 2, Math.min(last, next), 1, 1);
        chance(x, MOST, 2, k + 1, 0, 1);
        int enough = 0;
        for (int i = 0; i < 20; i++) {
            enough += x.drawn((int) (MOST - 9L + i), 6) >= k ? 1 : 0;
        }
        due.is("20 about the last", x.chance(MOST - 9, 20, k, 0) * 20, x.chance(MOST - 9, 20, k, 1) * enough);
    }
}
