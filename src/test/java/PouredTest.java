/** Promises 13 to 15: pour, best, blend. */
public final class PouredTest {
    private static final Due due = new Due("PouredTest");
    private static final int BAD = OtherHalfOfNight.BAD, NONE = OtherHalfOfNight.NONE;
    private static final long NO = OtherHalfOfNight.NO;

    public static void main(String[] args) {
        promise13();
        promise13OfNobody();
        promise14();
        promise14Bounds();
        promise15();
        due.end();
    }

    /** Where turns pour less than could be: 0 takes the cup that 1 needs. */
    private static OtherHalfOfNight greedy() {
        OtherHalfOfNight x = Due.ruledBy("yields trouble;suits taste=0 or number=1 and taste=1 or number=9;eases 1;");
        x.wakes(0, 1, 8);
        x.wakes(0, 2, 7);
        for (int cup = 0; cup < 6; cup++) {
            x.set(5, cup, 10);
        }
        return x;
    }

    private static void pours(OtherHalfOfNight x, int... wants) {
        for (int what = 0; what < wants.length; what++) {
            due.is("pour " + what, x.pour(what), wants[what]);
        }
    }

    private static void bests(OtherHalfOfNight x, int... wants) {
        for (int what = 0; what < wants.length; what++) {
            due.is("best " + what, x.best(what), wants[what]);
        }
    }

    private static void promise13() {
        OtherHalfOfNight x = greedy();
        // in turns: 8 into cup 0 and 2 of the 7 behind; at most 15
        pours(x, 15, 0, 5, 10, 1, 60);
        x.set(5, 1, 3);
        // 1's 8: no more than 5 in cup 0, 3 in cup 1
        pours(x, 13, 3, 3, 10, 1, 60);
        x.set(5, 1, 0);
        pours(x, 10, 3, 0, 10, 3, 60);
        x.set(5, 0, 2);
        pours(x, 2, 3, 0, 2, 3, 60);
        x.set(5, 0, 10);
        x.set(3, 0, 0);
        pours(x, 7, 0, 0, 7, 2, 62);
        x.wakes(4, 0, 50);
        x.set(1, 0, 11);
        // the girl's cup alone is the reason: the set is her
        pours(x, 17, 4, 0, 17, 34, 30);
        due.is("pour in thought", x.count(1), 0);
        due.is("pour in thought", x.count(2), 0);
        due.is("what above", x.pour(6), BAD);
        due.is("what below", x.pour(-1), BAD);
    }

    private static void promise13OfNobody() {
        pours(new OtherHalfOfNight(), 0, 0, 0, 0, 0, 63);
        OtherHalfOfNight x = new OtherHalfOfNight();
        x.set(5, 3, 0);
        due.is("a cup that wants nothing is full", x.pour(4), 8);
        x.wakes(0, 0, 1);
        x.force(Due.text(x, "yields 1;suits taste=2;eases 0;"));
        due.is("who yields 1 is enough", x.pour(5), 59);
        // of like sets the least as bits: {0} cuts as {0, 1}, and as none
        OtherHalfOfNight y = Due.ruledBy("yields trouble;suits taste=0;eases 1;");
        y.wakes(0, 0, 10);
        y.wakes(0, 0, 0);
        pours(y, 10, 0, 0, 10, 1, 62);
        y.set(3, 0, 11);
        pours(y, 10, 1, 0, 10, 1, 62);
    }

    private static void promise14() {
        OtherHalfOfNight x = greedy();
        bests(x, 1, 8, 2, 15, 0, 15);
        x.set(5, 1, 3);
        // without 0: 7; without 1: 8. Without cup 0: 3; without 1: 10; without 2: 13
        bests(x, 1, 8, 2, 13, 0, 14);
        x.set(5, 0, 99);
        x.set(5, 1, 0);
        bests(x, 1, 8, 1, 15, 0, 15);
        OtherHalfOfNight y = Due.ruledBy("yields trouble;suits taste=number;eases 1;");
        y.wakes(0, 5, 30);
        y.wakes(0, 3, 20);
        y.wakes(0, 3, 9);
        // 10 into 5, 10 into 3; without 1 there are 9 of 2
        bests(y, 2, 20, 0, 20, 3, 21);
        y.set(5, 3, 40);
        bests(y, 2, 30, 0, 39, 5, 40);
        y.set(5, 5, 30);
        y.set(5, 3, 1);
        y.set(3, 0, 1);
        // 1 into 5 of 1, 1 into 3 of 29: cup 0 isn't missed, cup 3 is
        bests(y, 1, 2, 0, 2, 3, 3);
        y.set(6, 0, 3);
        y.set(6, 1, 3);
        y.set(6, 2, 5);
        y.set(6, 4, 5);
        y.set(5, 0, 2);
        y.set(5, 1, 1);
        y.set(5, 2, 2);
        y.set(5, 4, 9);
        y.set(5, 3, 3);
        y.set(5, 5, 9);
        // of 3: 0, 1, 3; of 5: 2, 4, 5, with 1 alone
        bests(y, 1, 7, 2, 7, 0, 8);
        y.set(5, 3, 40);
        y.set(5, 0, 40);
        bests(y, 0, 29, 0, 30, 0, 30);
        y.set(3, 0, 30);
        y.set(5, 3, 1);
        y.set(5, 0, 1);
        y.set(6, 0, 7);
        y.set(6, 3, 7);
        // of 3 just cup 1, of 5 the cups 2, 4, 5
        bests(y, 1, 21, 0, 21, 1, 22);
        y.set(5, 3, 40);
        y.set(6, 3, 3);
        y.set(5, 1, 2);
        y.set(6, 2, 7);
        y.set(6, 4, 7);
        y.set(5, 5, 30);
        y.set(5, 2, 0);
        bests(y, 2, 50, 0, 59, 0, 59);
        y.set(6, 0, 5);
        y.set(6, 1, 5);
        y.set(5, 0, 40);
        y.set(5, 1, 9);
        y.set(5, 3, 1);
        y.set(5, 5, 1);
        // 30 into 0, 1, 5, where any two are room enough but 1 and 5
        bests(y, 1, 31, 1, 31, 3, 32);
        due.is("best in thought: want", y.told(0, 5), 40);
        y.set(5, 3, 40);
        due.is("best in thought: trouble", y.told(2, 3), 9);
        due.is("what above", y.best(6), BAD);
        due.is("what below", y.best(-1), BAD);
    }

    private static void promise14Bounds() {
        bests(new OtherHalfOfNight(), NONE, 0, 0, 0, 0, 0);
        OtherHalfOfNight all = new OtherHalfOfNight();
        all.wakes(0, 0, 98);
        bests(all, 0, 0, 0, 50, 0, 61);
        all.set(5, 0, 11);
        bests(all, 0, 0, 1, 51, 0, 62);
        OtherHalfOfNight x = Due.ruledBy("yields 99;suits taste=number;eases 1;");
        x.wakes(2, 0, 9);
        x.wakes(0, 1, 9);
        x.set(5, 0, 99);
        x.set(5, 1, 99);
        x.set(5, 2, 98);
        // without cup 0 there is room for 98 of the lady's; without cup 2 for all
        bests(x, 0, 99, 2, 198, 0, 198);
        x.wakes(2, 2, 9);
        // a want of 99 isn't made more: but for that cup 0 were the first
        bests(x, 0, 198, 3, 296, 2, 297);
    }

    private static void blends(OtherHalfOfNight x, int one, int cup, long above, long below) {
        due.is("above, " + one + " into " + cup, x.blend(one, cup, 0), above);
        due.is("below, " + one + " into " + cup, x.blend(one, cup, 1), below);
    }

    private static void promise15() {
        OtherHalfOfNight x = greedy();
        blends(x, 0, 0, 4, 5);
        blends(x, 1, 0, 1, 5);
        blends(x, 0, 1, NO, NO);
        x.set(5, 0, 3);
        blends(x, 0, 0, 1, 1);
        blends(x, 1, 0, 0, 1);
        blends(x, 0, 1, 1, 1);
        blends(x, 1, 1, 0, 1);
        x.set(5, 0, 14);
        blends(x, 0, 0, 4, 7);
        blends(x, 1, 0, 3, 7);
        due.is("blend in thought", x.count(1), 0);
        due.is("none such", x.blend(2, 0, 0), NO);
        due.is("none below", x.blend(-1, 0, 0), NO);
        due.is("no such cup", x.blend(0, 6, 0), NO);
        due.is("no cup below", x.blend(0, -1, 0), NO);
        due.is("no such part", x.blend(0, 0, 2), NO);
        due.is("no part below", x.blend(0, 0, -1), NO);
        x.night();
        x.set(3, 0, 0);
        blends(x, 0, 0, 0, 1);
        x.set(3, 1, 0);
        blends(x, 0, 0, NO, NO);
    }
}
