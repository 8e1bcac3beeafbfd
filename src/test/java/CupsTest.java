/** Promises 1 to 5: a new object, set, wakes, told, eased. */
public final class CupsTest {
    private static final Due due = new Due("CupsTest");
    private static final int BAD = OtherHalfOfNight.BAD, FULL = OtherHalfOfNight.FULL;

    public static void main(String[] args) {
        promise1();
        promise2();
        promise2Refuses();
        promise3();
        promise4Yields();
        promise4Suits();
        promise4Refuses();
        promise5();
        due.end();
    }

    private static void promise1() {
        OtherHalfOfNight x = new OtherHalfOfNight();
        int[] counts = {0, 0, 0, 1, 0, 0};
        for (int what = 0; what < counts.length; what++) {
            due.is("new: count " + what, x.count(what), counts[what]);
        }
        due.is("new: night", x.told(0, 0), 0);
        due.is("new: hour", x.told(0, 1), 0);
        for (int cup = 0; cup < 6; cup++) {
            due.is("new: want", x.told(cup, 5), 10);
            due.is("new: taste", x.told(cup, 6), cup);
            due.is("new: hold", x.told(cup, 10), 0);
        }
        due.is("new: nobody", x.told(0, 7), BAD);
        due.is("new: no image", x.back(), OtherHalfOfNight.STATE);
        for (int sheet = 0; sheet < 4; sheet++) {
            due.is("new: missing", x.cell(sheet, 0, 0), -11);
        }
        x.wakes(0, 0, 12);
        due.is("text 0 yields", x.told(0, 8), 13);
        due.is("text 0 suits", x.told(0, 9), 63);
        due.is("text 0 eases", x.eased(0), 0);
    }

    private static void promise2() {
        OtherHalfOfNight x = new OtherHalfOfNight();
        x.wakes(0, 4, 12);
        x.wakes(1, 5, 13);
        int[] most = {999, 23, 9, 99, 99, 99, 9};
        int[] was = {0, 0, 5, 13, 0, 10, 1};
        for (int what = 0; what < most.length; what++) {
            due.is("set most of " + what, x.set(what, 1, most[what]), was[what]);
            due.is("told most of " + what, x.told(1, what), most[what]);
            due.is("set 0 of " + what, x.set(what, 1, 0), most[what]);
            due.is("told 0 of " + what, x.told(1, what), 0);
        }
        due.is("another's number stays", x.told(0, 2), 4);
        due.is("another's trouble stays", x.told(0, 3), 12);
        due.is("another's want stays", x.told(0, 5), 10);
        due.is("another's taste stays", x.told(2, 6), 2);
        due.is("night: of doesn't matter", x.set(0, -7, 8), 0);
        due.is("hour: of doesn't matter", x.set(1, 1000, 9), 0);
        due.is("night of nobody", x.told(Integer.MIN_VALUE, 0), 8);
        due.is("hour of nobody", x.told(Integer.MAX_VALUE, 1), 9);
        due.is("the last cup", x.set(5, 5, 7), 10);
    }

    private static void promise2Refuses() {
        OtherHalfOfNight x = new OtherHalfOfNight();
        x.wakes(0, 4, 12);
        int[] most = {999, 23, 9, 99, 99, 99, 9};
        for (int what = 0; what < most.length; what++) {
            int was = x.told(0, what);
            due.is("set too much of " + what, x.set(what, 0, most[what] + 1), BAD);
            due.is("set below 0 of " + what, x.set(what, 0, -1), BAD);
            due.is("set the least int of " + what, x.set(what, 0, Integer.MIN_VALUE), BAD);
            due.is("refused changes nothing", x.told(0, what), was);
        }
        for (int what = 2; what <= 4; what++) {
            due.is("none such", x.set(what, 1, 0), BAD);
            due.is("none below", x.set(what, -1, 0), BAD);
        }
        for (int what = 5; what <= 6; what++) {
            due.is("no such cup", x.set(what, 6, 0), BAD);
            due.is("no cup below", x.set(what, -1, 0), BAD);
        }
        for (int what : new int[] {-1, 7, 8, 9, 10, 11, 12, Integer.MAX_VALUE, Integer.MIN_VALUE}) {
            due.is("set what " + what, x.set(what, 0, 0), BAD);
        }
    }

    private static void promise3() {
        OtherHalfOfNight x = new OtherHalfOfNight();
        int[][] bad = {{-1, 0, 0}, {6, 0, 0}, {0, -1, 0}, {0, 10, 0}, {0, 0, -1}, {0, 0, 100}};
        for (int[] one : bad) {
            due.is("wakes none such", x.wakes(one[0], one[1], one[2]), BAD);
        }
        due.is("nobody came", x.count(0), 0);
        for (int one = 0; one < 5; one++) {
            due.is("wakes", x.wakes(one + 1, 9 - one, 99 - one), one);
            due.is("kind", x.told(one, 7), one + 1);
            due.is("number", x.told(one, 2), 9 - one);
            due.is("trouble", x.told(one, 3), 99 - one);
            due.is("news", x.told(one, 4), 0);
        }
        due.is("full", x.wakes(0, 0, 0), FULL);
        due.is("bad ahead of full", x.wakes(0, 10, 0), BAD);
        due.is("five", x.count(0), 5);
        OtherHalfOfNight y = new OtherHalfOfNight();
        y.image();
        y.wakes(0, 0, 9);
        y.news(0);
        y.back();
        y.wakes(0, 0, 9);
        due.is("no news as one comes where another was", y.told(0, 4), 0);
    }

    private static OtherHalfOfNight five(String rule, int number, int trouble) {
        OtherHalfOfNight x = Due.ruledBy(rule);
        for (int kind = 0; kind < 5; kind++) {
            x.wakes(kind, number, trouble);
        }
        return x;
    }

    private static OtherHalfOfNight snorer(String rule, int number, int trouble) {
        OtherHalfOfNight x = Due.ruledBy(rule);
        x.wakes(5, number, trouble);
        return x;
    }

    private static void yielding(String rule, int night, int hour, int... wants) {
        OtherHalfOfNight x = five(rule, 3, 5);
        OtherHalfOfNight y = snorer(rule, 3, 5);
        x.set(0, 0, night);
        x.set(1, 0, hour);
        y.set(0, 0, night);
        y.set(1, 0, hour);
        for (int kind = 0; kind < 5; kind++) {
            due.is(rule + " kind " + kind + " night " + night + " hour " + hour, x.told(kind, 8), wants[kind]);
            x.set(3, kind, 0);
            due.is("without trouble", x.told(kind, 8), 0);
        }
        due.is(rule + " a snorer", y.told(0, 8), wants[5]);
        y.set(4, 0, 1);
        due.is("a snorer that had news", y.told(0, 8), 0);
    }

    private static void promise4Yields() {
        yielding("yields 30 ; suits 1 ; eases 7 ;", 0, 0, 30, 30, 60, 20, 0, 30);
        yielding("yields 30 ; suits 1 ; eases 7 ;", 1, 10, 30, 33, 60, 20, 0, 30);
        yielding("yields 30 ; suits 1 ; eases 7 ;", 999, 11, 30, 33, 60, 20, 60, 30);
        yielding("yields 18 ; suits 1 ; eases 7 ;", 1, 23, 18, 21, 36, 20, 36, 18);
        yielding("yields 10 ; suits 1 ; eases 7 ;", 2, 23, 10, 10, 20, 10, 20, 10);
        yielding("yields 10 ; suits 1 ; eases 7 ;", 3, 23, 10, 13, 20, 13, 20, 10);
        yielding("yields 98 ; suits 1 ; eases 7 ;", 3, 23, 98, 99, 99, 20, 99, 98);
        yielding("yields 5000 ; suits 1 ; eases 7 ;", 3, 23, 99, 99, 99, 20, 99, 99);
        yielding("yields - 5 ; suits 1 ; eases 7 ;", 3, 23, 0, 3, 0, 3, 0, 0);
        yielding("yields 0 ; suits 1 ; eases 7 ;", 4, 23, 0, 0, 0, 0, 0, 0);
        yielding("yields trouble + number ; suits 1 ; eases 7 ;", 4, 23, 8, 8, 16, 8, 16, 8);
    }

    private static void promise4Suits() {
        OtherHalfOfNight x = five("yields 1 ; suits taste = 4 ; eases 0 ;", 3, 0);
        int[] suits = {16, 16, 23, 16, 32};
        for (int kind = 0; kind < 5; kind++) {
            due.is("suits of kind " + kind, x.told(kind, 9), suits[kind]);
            x.set(2, kind, 4);
        }
        int[] number4 = {16, 0, 23, 0, 32};
        for (int kind = 0; kind < 5; kind++) {
            due.is("suits of number 4, kind " + kind, x.told(kind, 9), number4[kind]);
        }
        x.set(6, 1, 9);
        x.set(6, 5, 2);
        int[] tasted = {16, 0, 53, 2, 32};
        for (int kind = 0; kind < 5; kind++) {
            due.is("suits of other tastes, kind " + kind, x.told(kind, 9), tasted[kind]);
            x.set(2, kind, 9);
        }
        due.is("a debtor of number 9", x.told(3, 9), 18);
        due.is("a snorer", snorer("yields 1 ; suits 0 ; eases 0 ;", 3, 0).told(0, 9), 63);
        due.is("what isn't 0 is yes", five("yields 1 ; suits - 7 ; eases 0 ;", 3, 0).told(0, 9), 63);
        due.is("0 is no", five("yields 1 ; suits 0 ; eases 0 ;", 3, 0).told(0, 9), 0);
        due.is("a lady's no", five("yields 1 ; suits 0 ; eases 0 ;", 3, 0).told(2, 9), 7);
    }

    private static void promise4Refuses() {
        OtherHalfOfNight x = new OtherHalfOfNight();
        x.wakes(3, 4, 12);
        due.is("kind", x.told(0, 7), 3);
        for (int what : new int[] {2, 3, 4, 7, 8, 9}) {
            due.is("none such, what " + what, x.told(1, what), BAD);
            due.is("none below, what " + what, x.told(-1, what), BAD);
        }
        for (int what : new int[] {5, 6, 10}) {
            due.is("no such cup, what " + what, x.told(6, what), BAD);
            due.is("no cup below, what " + what, x.told(-1, what), BAD);
        }
        for (int what : new int[] {-1, 11, 12, Integer.MAX_VALUE, Integer.MIN_VALUE}) {
            due.is("told what " + what, x.told(0, what), BAD);
        }
        x.night();
        due.is("holds", x.told(0, 10), 10);
    }

    private static void ease(String rule, int night, int trouble, int... wants) {
        OtherHalfOfNight x = five(rule, 3, trouble);
        OtherHalfOfNight y = snorer(rule, 3, trouble);
        x.set(0, 0, night);
        for (int kind = 0; kind < 5; kind++) {
            due.is(rule + " eased kind " + kind + " night " + night, x.eased(kind), wants[kind]);
        }
        due.is(rule + " eased a snorer", y.eased(0), wants[5]);
        y.set(4, 0, 99);
        due.is("all of it", y.eased(0), trouble);
    }

    private static void promise5() {
        ease("yields 1 ; suits 1 ; eases 7 ;", 0, 50, 7, 3, 0, -1, -3, 7);
        ease("yields 1 ; suits 1 ; eases 7 ;", 6, 50, 7, 3, 0, 3, -3, 7);
        ease("yields 1 ; suits 1 ; eases 7 ;", 994, 50, 7, 3, 0, -1, -3, 7);
        ease("yields 1 ; suits 1 ; eases 7 ;", 1, 0, 7, 3, 0, 3, -3, 7);
        ease("yields 1 ; suits 1 ; eases 1000 ;", 1, 2, 99, 49, 0, 49, -3, 99);
        ease("yields 1 ; suits 1 ; eases 2 - trouble ;", 1, 9, 0, 0, 0, 0, -3, 0);
        ease("yields 1 ; suits 1 ; eases taste + 8 ;", 1, 9, 8, 4, 0, 4, -3, 8);
        OtherHalfOfNight x = new OtherHalfOfNight();
        x.wakes(0, 0, 5);
        due.is("none such", x.eased(1), -1000);
        due.is("none below", x.eased(-1), -1000);
    }
}
