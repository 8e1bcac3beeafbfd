/** Promises 13 to 15 at their bounds: nobody and five, nothing wanted and all, of like ones the first or the least. */
public final class PourEdgesTest {
    private static final Due due = new Due("PourEdgesTest");
    private static final int NONE = OtherHalfOfNight.NONE;
    private static final long NO = OtherHalfOfNight.NO;

    public static void main(String[] args) {
        nobody();
        oneEach();
        nobodyYields();
        nothingIsWanted();
        allIsWanted();
        moreThanIsWanted();
        leastAsBits();
        shortByTurns();
        fullCups();
        starvedCups();
        leastLostOfLikeOnes();
        emptyOfLikeOnes();
        dearestUpTo99();
        anyNight();
        blendsInLowestTerms();
        blendOfNothing();
        due.end();
    }

    private static void pours(String when, OtherHalfOfNight x, int... wants) {
        for (int what = 0; what < wants.length; what++) {
            due.is(when + ": pour " + what, x.pour(what), wants[what]);
        }
    }

    private static void bests(String when, OtherHalfOfNight x, int... wants) {
        for (int what = 0; what < wants.length; what++) {
            due.is(when + ": best " + what, x.best(what), wants[what]);
        }
    }

    private static OtherHalfOfNight sleepers(String suits, int... troubles) {
        OtherHalfOfNight x = Due.ruledBy("yields trouble;suits " + suits + ";eases 0;");
        for (int i = 0; i < troubles.length; i++) {
            x.wakes(0, i, troubles[i]);
        }
        return x;
    }

    private static void wants(OtherHalfOfNight x, int... wants) {
        for (int cup = 0; cup < wants.length; cup++) {
            x.set(5, cup, wants[cup]);
        }
    }

    private static void nobody() {
        OtherHalfOfNight x = new OtherHalfOfNight();
        pours("nobody", x, 0, 0, 0, 0, 0, 63);
        bests("nobody", x, NONE, 0, 0, 0, 0, 0);
        wants(x, 0, 99, 0, 99, 1, 0);
        pours("nobody, cups that want nothing", x, 0, 0, 0, 0, 37, 63);
        bests("nobody", x, NONE, 0, 0, 0, 0, 0);
    }

    /** Each just into the cup of its number: the less of the two, of each. */
    private static void oneEach() {
        OtherHalfOfNight x = sleepers("taste=number", 5, 10, 15, 0, 99);
        pours("one each", x, 35, 4 | 16, 0, 35, 2 | 4 | 16, 8 | 32);
        bests("one each", x, 3, 35, 3, 35, 2, 36);
        x.set(3, 1, 11);
        pours("11 for 10", x, 35, 2 | 4 | 16, 0, 35, 2 | 4 | 16, 8 | 32);
        bests("11 for 10", x, 3, 35, 3, 35, 1, 36);
        x.set(3, 1, 9);
        pours("9 for 10", x, 34, 4 | 16, 0, 34, 4 | 16, 8 | 32);
        bests("9 for 10", x, 3, 34, 3, 34, 2, 35);
        x.set(3, 3, 1);
        bests("1 of the fourth", x, 3, 34, 5, 35, 2, 36);
        x.set(3, 4, 1);
        // of two that are worth 1 the first
        bests("1 of the fourth and the last", x, 3, 25, 5, 26, 2, 27);
        x.set(3, 3, 2);
        bests("of the last the least", x, 4, 26, 5, 27, 2, 28);
        x.set(6, 5, 4);
        bests("two cups for the last", x, 4, 26, 4, 27, 2, 28);
    }

    private static void nobodyYields() {
        OtherHalfOfNight x = sleepers("1", 0, 0, 0, 0, 0);
        pours("nobody yields", x, 0, 0, 0, 0, 0, 63);
        bests("nobody yields", x, 0, 0, 0, 0, 0, 0);
        x.set(3, 4, 1);
        pours("the last yields 1", x, 1, 0, 0, 1, 0, 0);
        bests("the last yields 1", x, 0, 1, 0, 1, 0, 1);
        x.set(3, 0, 1);
        x.set(3, 4, 0);
        pours("the first yields 1", x, 1, 0, 0, 1, 0, 0);
        bests("the first yields 1", x, 1, 1, 0, 1, 0, 1);
    }

    private static void nothingIsWanted() {
        OtherHalfOfNight x = sleepers("1", 3, 0, 3, 0, 3);
        wants(x, 0, 0, 0, 0, 0, 0);
        pours("nothing is wanted", x, 0, 1 | 4 | 16, 0, 0, 63, 0);
        bests("nothing is wanted", x, 0, 0, 0, 0, 0, 1);
        OtherHalfOfNight y = sleepers("taste=5", 3);
        wants(y, 0, 0, 0, 0, 0, 0);
        pours("nothing is wanted", y, 0, 1, 0, 0, 63, 31);
        bests("nothing is wanted", y, 0, 0, 0, 0, 5, 1);
        OtherHalfOfNight z = sleepers("0", 3);
        wants(z, 0, 0, 0, 0, 0, 0);
        pours("nobody suits", z, 0, 1, 0, 0, 63, 63);
        bests("nobody suits", z, 0, 0, 0, 0, 0, 0);
        wants(z, 99, 99, 99, 99, 99, 99);
        pours("nobody suits what is wanted", z, 0, 1, 0, 0, 0, 63);
        bests("nobody suits what is wanted", z, 0, 0, 0, 0, 0, 0);
    }

    private static void allIsWanted() {
        OtherHalfOfNight x = sleepers("1", 99, 99, 99, 99, 99);
        wants(x, 99, 99, 99, 99, 99, 99);
        pours("594 wanted of 495", x, 495, 0, 0, 495, 31, 0);
        bests("594 wanted of 495", x, 0, 396, 0, 495, 0, 495);
        x.set(5, 5, 0);
        pours("495 wanted of 495", x, 495, 0, 0, 495, 63, 0);
        bests("495 wanted of 495", x, 0, 396, 5, 495, 0, 495);
        x.set(5, 0, 98);
        pours("494 wanted of 495", x, 494, 31, 0, 494, 63, 0);
        bests("494 wanted of 495", x, 0, 396, 5, 494, 0, 495);
        x.set(5, 0, 99);
        x.set(5, 5, 1);
        pours("496 wanted of 495", x, 495, 0, 0, 495, 31, 0);
        bests("496 wanted of 495", x, 0, 396, 5, 495, 0, 495);
    }

    private static void moreThanIsWanted() {
        OtherHalfOfNight x = sleepers("1", 20, 20, 20, 20, 20);
        pours("100 for 60", x, 60, 31, 0, 60, 63, 0);
        bests("100 for 60", x, 0, 60, 0, 50, 0, 61);
        x.set(3, 0, 0);
        pours("80 for 60", x, 60, 30, 0, 60, 63, 0);
        x.set(3, 4, 0);
        // 60 for 60: what all yield is just MOST
        pours("60 for 60", x, 60, 0, 0, 60, 63, 0);
        bests("60 for 60", x, 0, 60, 0, 50, 0, 60);
        x.set(3, 3, 19);
        pours("59 for 60", x, 59, 0, 0, 59, 31, 0);
        x.set(3, 3, 21);
        pours("61 for 60", x, 60, 14, 0, 60, 63, 0);
        bests("61 for 60", x, 0, 60, 0, 50, 0, 61);
    }

    private static void leastAsBits() {
        // 0 and 1 both into cup 0, 2 into cup 2, as much as it wants; into 1 and 5 nobody
        OtherHalfOfNight x = sleepers("taste=0 and number<2 or taste=number and 1<number", 6, 6, 10, 4, 0);
        pours("0 and 1 are the reason", x, 24, 3, 0, 24, 5, 2 | 16 | 32);
        x.set(3, 1, 4);
        pours("6 and 4 for 10", x, 24, 0, 0, 24, 5, 2 | 16 | 32);
        x.set(3, 1, 5);
        pours("6 and 5 for 10", x, 24, 3, 0, 24, 5, 2 | 16 | 32);
        x.set(3, 1, 0);
        x.set(3, 0, 11);
        pours("11 and nothing for 10", x, 24, 1, 0, 24, 5, 2 | 16 | 32);
        x.set(3, 0, 10);
        x.set(3, 4, 11);
        pours("the last is the reason", x, 34, 16, 0, 34, 21, 2 | 32);
        x.set(3, 2, 11);
        pours("the third and the last", x, 34, 20, 0, 34, 21, 2 | 32);
    }

    private static void shortByTurns() {
        // 0 takes what 1 needs
        OtherHalfOfNight x = sleepers("taste=0 or number=0 and taste=1", 10, 10);
        pours("all of it is short", x, 20, 0, 10, 10, 1, 60);
        x.set(5, 0, 99);
        pours("nothing is short", x, 20, 0, 0, 20, 0, 60);
        x.set(5, 0, 19);
        pours("short by 1", x, 20, 0, 1, 19, 1, 60);
        x.set(5, 0, 20);
        pours("short by none", x, 20, 0, 0, 20, 1, 60);
        x.set(5, 0, 0);
        pours("none for 1", x, 10, 2, 0, 10, 3, 60);
        OtherHalfOfNight y = sleepers("number<4 and (taste=number or taste=number+1) or number=4 and taste=0", 99, 99, 99, 99, 99);
        wants(y, 99, 99, 99, 99, 99, 99);
        pours("five in a row", y, 495, 0, 99, 396, 15, 32);
    }

    private static void fullCups() {
        for (int cup = 0; cup < 6; cup++) {
            OtherHalfOfNight x = sleepers("taste=" + cup, 10);
            due.is("10 for 10", x.pour(4), 1 << cup);
            x.set(3, 0, 9);
            due.is("9 for 10", x.pour(4), 0);
            x.set(3, 0, 11);
            due.is("11 for 10", x.pour(4), 1 << cup);
            x.set(5, cup, 0);
            due.is("11 for 0", x.pour(4), 1 << cup);
            x.set(3, 0, 0);
            due.is("0 for 0", x.pour(4), 1 << cup);
            x.set(5, cup, 1);
            due.is("0 for 1", x.pour(4), 0);
            x.set(3, 0, 1);
            due.is("1 for 1", x.pour(4), 1 << cup);
        }
        // of the night, not of what they hold now
        OtherHalfOfNight x = sleepers("1", 60);
        x.night();
        x.set(3, 0, 0);
        due.is("what they hold now doesn't count", x.pour(4), 0);
        due.is("they hold it yet", x.count(1), 60);
        x.set(3, 0, 60);
        x.set(5, 0, 9);
        due.is("what they want now counts", x.pour(4), 63);
    }

    private static void starvedCups() {
        OtherHalfOfNight x = sleepers("taste=number", 1, 0, 99, 0, 1);
        due.is("who yields 1 is enough", x.pour(5), 2 | 8 | 32);
        x.set(5, 0, 0);
        due.is("a cup that wants nothing isn't starved by that", x.pour(5), 2 | 8 | 32);
        wants(x, 99, 99, 99, 99, 99, 99);
        due.is("nor one that isn't full", x.pour(5), 2 | 8 | 32);
        for (int one = 0; one < 5; one++) {
            x.set(3, one, 0);
        }
        due.is("all", x.pour(5), 63);
        x.force(0);
        x.set(3, 4, 1);
        due.is("none", x.pour(5), 0);
        OtherHalfOfNight girl = new OtherHalfOfNight();
        girl.wakes(4, 0, 9);
        due.is("a girl in the morning", girl.pour(5), 63);
        girl.set(1, 0, 11);
        due.is("a girl", girl.pour(5), 31);
    }

    private static void leastLostOfLikeOnes() {
        OtherHalfOfNight x = sleepers("1", 7, 7, 7, 7, 7);
        bests("all alike", x, 0, 28);
        x.set(3, 4, 6);
        bests("the last is less", x, 4, 28);
        x.set(3, 2, 6);
        bests("the third, too", x, 2, 27);
        x.set(3, 0, 6);
        bests("the first, too", x, 0, 26);
        x.set(3, 1, 5);
        bests("the second is least", x, 1, 25);
        wants(x, 5, 0, 0, 0, 0, 0);
        bests("nobody is missed", x, 0, 5);
        wants(x, 25, 0, 0, 0, 0, 0);
        bests("25 of 30", x, 1, 25);
        wants(x, 24, 0, 0, 0, 0, 0);
        // without the first there are 24 of 30, as many as are wanted
        bests("24 of 30", x, 0, 24);
        OtherHalfOfNight one = sleepers("1", 7);
        bests("one alone", one, 0, 0, 0, 7, 0, 7);
    }

    private static void emptyOfLikeOnes() {
        OtherHalfOfNight x = sleepers("1", 60);
        bests("all alike", x, 0, 0, 0, 50, 0, 60);
        x.set(5, 5, 9);
        bests("the last is less", x, 0, 0, 5, 50, 0, 60);
        x.set(5, 3, 9);
        bests("the fourth, too", x, 0, 0, 3, 49, 0, 59);
        x.set(5, 0, 9);
        bests("the first, too", x, 0, 0, 0, 48, 0, 58);
        x.set(5, 4, 8);
        bests("the fifth is least", x, 0, 0, 4, 47, 0, 56);
        x.set(3, 0, 48);
        bests("none but the fifth can be missed", x, 0, 0, 4, 47, 0, 48);
        x.set(3, 0, 45);
        bests("the first can be missed", x, 0, 0, 0, 45, 0, 45);
    }

    private static void dearestUpTo99() {
        OtherHalfOfNight x = sleepers("taste=0 or taste=1", 99, 99, 99);
        wants(x, 99, 99, 0, 0, 0, 0);
        bests("99 is the most", x, 0, 198, 2, 198, 0, 198);
        x.set(5, 1, 98);
        bests("98 may be 1 more", x, 0, 197, 2, 197, 1, 198);
        x.set(5, 0, 98);
        bests("of like ones the first", x, 0, 196, 2, 196, 0, 197);
        x.set(5, 0, 0);
        x.set(5, 1, 0);
        bests("none may be 1", x, 0, 0, 0, 0, 0, 1);
        for (int cup = 0; cup < 6; cup++) {
            OtherHalfOfNight y = sleepers("taste=" + cup, 11);
            bests("just cup " + cup, y, 0, 0, cup == 0 ? 1 : 0, 10, cup, 11);
            y.set(3, 0, 10);
            bests("just cup " + cup + ", 10 for 10", y, 0, 0, cup == 0 ? 1 : 0, 10, 0, 10);
        }
    }

    private static void anyNight() {
        OtherHalfOfNight x = Due.ruledBy("yields 5;suits 1;eases 0;");
        x.wakes(1, 9, 9);
        int[][] nights = {{0, 5}, {1, 14}, {998, 5}, {999, 14}};
        for (int[] night : nights) {
            x.set(0, 0, night[0]);
            pours("in night " + night[0], x, night[1], 0, 0, night[1], night[1] > 10 ? 1 : 0, 0);
            bests("in night " + night[0], x, 0, 0, 0, night[1], 0, night[1]);
            due.is("blend in night " + night[0], x.blend(0, 0, 1), 1);
        }
    }

    private static void blends(OtherHalfOfNight x, int one, int cup, long above, long below) {
        due.is("blend " + one + " into " + cup + ", above", x.blend(one, cup, 0), above);
        due.is("blend " + one + " into " + cup + ", below", x.blend(one, cup, 1), below);
    }

    private static void blendsInLowestTerms() {
        int[][] rows = {{1, 98, 1, 99, 98, 99}, {33, 66, 1, 3, 2, 3}, {49, 49, 1, 2, 1, 2}, {99, 0, 1, 1, 0, 1},
            {0, 99, 0, 1, 1, 1}, {98, 1, 98, 99, 1, 99}, {0, 1, 0, 1, 1, 1}, {1, 0, 1, 1, 0, 1}, {6, 9, 2, 5, 3, 5},
            {89, 8, 89, 97, 8, 97}, {55, 34, 55, 89, 34, 89}};
        for (int[] row : rows) {
            OtherHalfOfNight x = sleepers("taste=5", row[0], row[1]);
            x.set(5, 5, 99);
            blends(x, 0, 5, row[2], row[3]);
            blends(x, 1, 5, row[4], row[5]);
        }
        OtherHalfOfNight x = sleepers("taste=5", 20, 20, 20, 20, 20);
        x.set(5, 5, 90);
        for (int one = 0; one < 4; one++) {
            blends(x, one, 5, 2, 9);
        }
        blends(x, 4, 5, 1, 9);
        x.set(5, 5, 80);
        blends(x, 4, 5, 0, 1);
    }

    private static void blendOfNothing() {
        OtherHalfOfNight x = sleepers("taste=1", 9);
        blends(x, 0, 0, NO, NO);
        blends(x, 0, 1, 1, 1);
        x.set(5, 1, 0);
        blends(x, 0, 1, NO, NO);
        x.set(5, 1, 1);
        blends(x, 0, 1, 1, 1);
        x.night();
        x.set(3, 0, 0);
        due.is("it holds something now", x.told(1, 10), 1);
        blends(x, 0, 1, NO, NO);
        blends(new OtherHalfOfNight(), 0, 0, NO, NO);
    }
}
