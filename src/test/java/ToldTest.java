/** Promises 16 to 22: tells, film, drawn, chance, image, back, count. */
public final class ToldTest {
    private static final Due due = new Due("ToldTest");
    private static final int BAD = OtherHalfOfNight.BAD, NONE = OtherHalfOfNight.NONE;
    private static final int STATE = OtherHalfOfNight.STATE;
    private static final long NO = OtherHalfOfNight.NO;

    public static void main(String[] args) {
        promise16();
        promise16OfATaleThatEases();
        promise16OfHoursAndTexts();
        promise16Bounds();
        promise16Refuses();
        promise17();
        promise17Refuses();
        promise18();
        promise19();
        promises20And21();
        promise21KeepsNoMore();
        promise22();
        due.end();
    }

    private static void tells(OtherHalfOfNight x, int sheet, int one, int... wants) {
        for (int what = 0; what < wants.length; what++) {
            due.is("tells " + what + " of " + one, x.tells(sheet, one, what), wants[what]);
        }
    }

    private static void promise16() {
        OtherHalfOfNight x = new OtherHalfOfNight();
        x.wakes(1, 4, 9);
        x.wakes(0, 4, 9);
        x.wakes(1, 4, 8);
        Due.row(x, 0, 0, 10, 14, 10, 14);
        // a debtor has 1 more behind night 0
        tells(x, 0, 0, NONE, 2, 16, 1, 9, (1 << 24) - 1, 1, 1);
        // at even nights a sleeper is told as a clerk
        tells(x, 0, 1, 1, 2, 0, 0, NONE, 0, 0, 1);
        tells(x, 0, 2, 0, 0, 0, 1, 9, 0, 0, 1);
        x.set(0, 0, 1);
        tells(x, 0, 0, 0, 0, 0, 0, NONE, 0, 0, 0);
        Due.row(x, 0, 2, 14, 10, 14, 11);
        tells(x, 0, 0, 3, 0, 0, 0, NONE, 0, 0, 0);
        due.is("in thought: night", x.count(2), 1);
        due.is("in thought: kind", x.told(0, 7), 1);
        due.is("in thought: number", x.told(0, 2), 4);
        due.is("in thought: trouble", x.told(0, 3), 9);
        due.is("in thought: hour", x.told(0, 1), 0);
        due.is("in thought: rule", x.count(5), 0);
    }

    private static void promise16OfATaleThatEases() {
        OtherHalfOfNight x = Due.ruledBy("yields 5 + 4 * (5 < trouble);suits 1;eases 1;");
        x.wakes(0, 0, 7);
        // 9 while there is more than 5, then 5 till there is none
        Due.row(x, 1, 1, 9, 9, 5, 5, 5, 5, 5, 0);
        tells(x, 1, 0, NONE, 1 | 32, 1023, 1, 7, (1 << 24) - 1, 2, 1);
        Due.row(x, 1, 1, 9, 9);
        // a clerk's half of 1 is 0; without a number odd nights are as even ones
        tells(x, 1, 0, NONE, 1 | 2 | 8 | 32, 1023, 93, 7, (1 << 24) - 1, 2, 1);
        x.set(2, 0, 1);
        tells(x, 1, 0, NONE, 1 | 32, 1023, 93, 7, (1 << 24) - 1, 2, 1);
        x.set(4, 0, 1);
        tells(x, 1, 0, NONE, 1, 1023, 93, 7, (1 << 24) - 1, 2, 1);
    }

    private static void promise16OfHoursAndTexts() {
        OtherHalfOfNight x = new OtherHalfOfNight();
        Due.text(x, "yields 4 ; suits 1 ; eases 0 ;");
        Due.text(x, "yields 2 * (12 < hour) + 2 ; suits 1 ; eases 0 ;");
        Due.text(x, "yields number ; suits 1 ; eases 0 ;");
        x.wakes(4, 4, 3);
        x.set(1, 0, 20);
        Due.row(x, 0, 0, 8, 8, 8);
        // by text 0 her trouble grows by her number: so a lady's it could be, or number 0's
        tells(x, 0, 0, 1, 4, 1, 0, NONE, 0, 2 | 4 | 8, 0);
        x.force(2);
        tells(x, 0, 0, NONE, 4 | 16, 1023, 99, 1, 0xffe000, 2 | 4 | 8, 1);
        x.force(3);
        tells(x, 0, 0, NONE, 4 | 16, 16, 99, 1, 0xfff800, 2 | 4 | 8, 1);
        x.set(1, 0, 10);
        tells(x, 0, 0, 0, 4, 0, 0, NONE, 0xfff800, 0, 0);
    }

    private static void promise16Bounds() {
        OtherHalfOfNight x = new OtherHalfOfNight();
        x.wakes(0, 0, 98);
        x.wakes(0, 9, 0);
        x.sheet(2, 0, 0);
        tells(x, 2, 1, NONE, 63, 1023, 100, 0, (1 << 24) - 1, 1, 3);
        x.sheet(2, 2, 20);
        // a debtor has trouble behind night 0
        tells(x, 2, 1, NONE, 63 - 8, 1023, 1, 0, (1 << 24) - 1, 1, 2);
        tells(x, 2, 0, 0, 16, 0, 1, 0, 0, 0, 2);
        Due.row(x, 2, 0, 99);
        // 98 and 99 of trouble
        tells(x, 2, 0, NONE, 1 | 2 | 4 | 32, 1023, 2, 98, (1 << 24) - 1, 1, 1);
        x.force(Due.text(x, "yields trouble;suits 1;eases 0;"));
        tells(x, 2, 0, 0, 4, 0, 1, 99, 0, 1, 0);
        x.force(0);
        x.set(0, 0, 999);
        Due.row(x, 2, 2, 99, 99, 99);
        // in thought night passes 999
        tells(x, 2, 0, NONE, 1 | 2 | 4 | 32, 1023, 2, 98, (1 << 24) - 1, 1, 1);
        Due.row(x, 2, 2, 99, 99, 99 + 256);
        due.is("no bytes", x.tells(2, 0, 0), 2);
        Due.row(x, 2, 0, 99, 99, 99 + 256);
        due.is("bytes", x.tells(2, 0, 0), NONE);
        Due.row(x, 2, 1, 99, 99, 99 + 65536);
        due.is("shorts", x.tells(2, 0, 0), NONE);
    }

    private static void promise16Refuses() {
        OtherHalfOfNight x = new OtherHalfOfNight();
        x.wakes(0, 0, 9);
        x.sheet(0, 0, 21);
        x.sheet(1, 0, 20);
        due.is("20 are told", x.tells(1, 0, 0), 0);
        due.is("more than 20", x.tells(0, 0, 0), BAD);
        due.is("missing", x.tells(2, 0, 0), -11);
        due.is("no such sheet", x.tells(4, 0, 0), BAD);
        due.is("no sheet below", x.tells(-1, 0, 0), BAD);
        due.is("none such", x.tells(1, 1, 0), BAD);
        due.is("none below", x.tells(1, -1, 0), BAD);
        due.is("what above", x.tells(1, 0, 8), BAD);
        due.is("what below", x.tells(1, 0, -1), BAD);
        due.is("none such ahead of missing", x.tells(2, 1, 0), BAD);
        due.is("what ahead of missing", x.tells(2, 0, 8), BAD);
    }

    private static void promise17() {
        OtherHalfOfNight x = Due.ruledBy("yields trouble + hour;suits 1;eases 4;");
        x.wakes(1, 3, 9);
        x.set(1, 0, 2);
        x.set(0, 0, 999);
        x.sheet(3, 2, 40);
        due.is("film", x.film(3, 0, 6), 14 + 9 + 10 + 5 + 6 + 0);
        due.is("just the items", x.cell(3, 6, 0), -12);
        int[] wants = {14, 9, 10, 5, 6, 0};
        due.is("as told", x.tells(3, 0, 0), NONE);
        Due.row(x, 2, 0, wants);
        due.is("the items", x.tells(2, 0, 0), NONE);
        due.is("bytes", x.copy(3, 0, 2, 0, 6), 6);
        due.is("in thought: night", x.count(2), 999);
        due.is("in thought: trouble", x.told(0, 3), 9);
        due.is("none", x.film(3, 0, 0), 0);
        due.is("a row of none", x.cell(3, 0, 0), -12);
        due.is("20", x.film(1, 0, 20), 44);
        due.is("a row of 20", x.cell(1, 19, 0), 1);
        due.is("no more than 20", x.cell(1, 20, 0), -12);
    }

    private static void promise17Refuses() {
        OtherHalfOfNight x = new OtherHalfOfNight();
        x.wakes(0, 0, 9);
        due.is("no such sheet", x.film(4, 0, 1), BAD);
        due.is("no sheet below", x.film(-1, 0, 1), BAD);
        due.is("none such", x.film(0, 1, 1), BAD);
        due.is("none below", x.film(0, -1, 1), BAD);
        due.is("n above", x.film(0, 0, 21), BAD);
        due.is("n below", x.film(0, 0, -1), BAD);
        due.is("refused changes nothing", x.cell(0, 0, 0), -11);
    }

    private static OtherHalfOfNight eight(int ones) {
        OtherHalfOfNight x = Due.ruledBy("yields trouble;suits 1;eases 0;");
        int[] troubles = {1, 2, 4, 8, 16};
        for (int one = 0; one < ones; one++) {
            x.wakes(0, 0, troubles[one]);
        }
        return x;
    }

    private static void promise18() {
        // of seed 1 z is 1103527590, 2524885223, 662824084, 3295386429 modulo 2 to the 32nd: numbers 7, 0, 2, 5
        int[] byHand = {0, 31, 61, 87, 113};
        for (int n = 0; n < byHand.length; n++) {
            due.is("by hand, " + n, eight(5).drawn(1, n), byHand[n]);
        }
        int[] whose = new int[41];
        int z = 1;
        for (int i = 0; i < 41; i++) {
            z = z * 1103515245 + 12345;
            whose[i] = (int) (((z & 0xffffffffL) >> 9) & 7);
        }
        due.is("the first is numbered", (1103527590 >> 9) % 8, whose[0]);
        OtherHalfOfNight x = eight(5);
        int[] troubles = {1, 2, 4, 8, 16, 0, 0, 0};
        int all = 0;
        for (int n = 0; n <= 40; n++) {
            due.is("drawn by 1, " + n, x.drawn(1, n), all);
            troubles[whose[n]] = 0;
            for (int trouble : troubles) {
                all += trouble;
            }
        }
        due.is("in thought: news", x.told(0, 4), 0);
        due.is("in thought: trouble", x.told(4, 3), 16);
        due.is("in thought: night", x.count(2), 0);
        due.is("n above", x.drawn(1, 41), BAD);
        due.is("n below", x.drawn(1, -1), BAD);
        due.is("nobody's", new OtherHalfOfNight().drawn(-5, 40), 0);
        // by seed 0 z is 12345 first: that is none's but number 0's
        due.is("seed 0", eight(1).drawn(0, 1), 0);
        due.is("seed 0", eight(5).drawn(0, 1), 30);
        // a seed below 0: z is as of an int
        due.is("seed -1", eight(5).drawn(-1, 1), 31 - (1 << (((-1103515245 + 12345) >>> 9) % 8) & 31));
    }

    private static void promise19() {
        OtherHalfOfNight x = eight(3);
        int[] drawn = new int[20];
        for (int i = 0; i < 20; i++) {
            drawn[i] = x.drawn(Integer.MAX_VALUE - 9 + i, 6);
        }
        for (int k = 0; k < 45; k += 4) {
            for (int m : new int[] {1, 9, 12, 20}) {
                int enough = 0;
                for (int i = 0; i < m; i++) {
                    enough += drawn[i] >= k ? 1 : 0;
                }
                int by = m;
                while (enough % by != 0 || m % by != 0) {
                    by--;
                }
                due.is("above", x.chance(Integer.MAX_VALUE - 9, m, k, 0), enough / by);
                due.is("below", x.chance(Integer.MAX_VALUE - 9, m, k, 1), m / by);
            }
        }
        due.is("all", x.chance(7, 20, 0, 0), 1);
        due.is("of all", x.chance(7, 20, 0, 1), 1);
        due.is("none", x.chance(7, 20, 9999, 0), 0);
        due.is("of none", x.chance(7, 20, 9999, 1), 1);
        due.is("m below", x.chance(7, 0, 0, 0), NO);
        due.is("m above", x.chance(7, 21, 0, 0), NO);
        due.is("k below", x.chance(7, 1, -1, 0), NO);
        due.is("k above", x.chance(7, 1, 10000, 0), NO);
        due.is("part below", x.chance(7, 1, 0, -1), NO);
        due.is("part above", x.chance(7, 1, 0, 2), NO);
    }

    private static void promises20And21() {
        OtherHalfOfNight x = new OtherHalfOfNight();
        due.is("no image", x.back(), STATE);
        Due.text(x, "yields trouble;suits 1;eases 3;");
        x.wakes(3, 4, 9);
        x.wakes(5, 6, 7);
        x.set(5, 2, 7);
        x.set(6, 2, 8);
        x.set(1, 0, 5);
        x.set(4, 1, 2);
        x.night();
        due.is("image", x.image(), 2);
        x.wakes(0, 0, 99);
        x.force(1);
        x.night();
        x.set(0, 0, 500);
        x.set(1, 0, 6);
        for (int what = 2; what <= 6; what++) {
            x.set(what, 1, 1);
            x.set(what, 2, 3);
        }
        for (int turn = 0; turn < 2; turn++) {
            due.is("back", x.back(), 2);
            due.is("ones", x.count(0), 2);
            due.is("held", x.count(1), 10);
            due.is("night", x.count(2), 1);
            due.is("hour", x.told(0, 1), 5);
            due.is("rule", x.count(5), 0);
            int[] first = {4, 10, 0};
            int[] second = {6, 0, 2};
            for (int what = 2; what <= 4; what++) {
                due.is("first " + what, x.told(0, what), first[what - 2]);
                due.is("second " + what, x.told(1, what), second[what - 2]);
            }
            due.is("want", x.told(2, 5), 7);
            due.is("taste", x.told(2, 6), 8);
            due.is("another want", x.told(1, 5), 10);
            due.is("holds", x.told(0, 10), 10);
            due.is("kinds", x.told(0, 7) * 10 + x.told(1, 7), 35);
            due.is("who came since is gone", x.told(2, 7), BAD);
            x.night();
            x.set(3, 0, 77);
        }
        due.is("another image", x.image(), 2);
        x.set(3, 0, 1);
        x.back();
        due.is("as in the last image", x.told(0, 3), 77);
    }

    private static void promise21KeepsNoMore() {
        OtherHalfOfNight x = new OtherHalfOfNight();
        due.is("image of nobody", x.image(), 0);
        Due.text(x, "yields trouble;suits 1;eases 3;");
        x.sheet(0, 1, 3);
        x.feed('y');
        x.wakes(0, 0, 1);
        due.is("back to nobody", x.back(), 0);
        due.is("texts stay", x.count(3), 2);
        due.is("the tape stays", x.count(4), 1);
        due.is("sheets stay", x.cell(0, 2, 0), 1);
        due.is("nobody", x.told(0, 7), BAD);
        due.is("the first who comes", x.wakes(1, 1, 1), 0);
    }

    private static void promise22() {
        OtherHalfOfNight x = new OtherHalfOfNight();
        Due.text(x, "yields 50;suits 1;eases 3;");
        Due.text(x, "yields 23;suits 1;eases 3;");
        x.force(2);
        x.wakes(0, 0, 1);
        x.wakes(0, 0, 1);
        x.wakes(1, 0, 1);
        x.set(0, 0, 41);
        x.night();
        x.feed(9);
        x.feed(9);
        x.feed(9);
        x.feed(9);
        int[] wants = {3, 60, 42, 3, 4, 2};
        for (int what = 0; what < wants.length; what++) {
            due.is("count " + what, x.count(what), wants[what]);
        }
        due.is("what above", x.count(6), BAD);
        due.is("what below", x.count(-1), BAD);
    }
}
