/** Promises 9 to 12, 20 to 22 at their bounds: what is poured to the drop, the last NIGHT, NEWS, SLEEPS, images. */
public final class NightEdgesTest {
    private static final Due due = new Due("NightEdgesTest");
    private static final int BAD = OtherHalfOfNight.BAD, NONE = OtherHalfOfNight.NONE;
    private static final int STATE = OtherHalfOfNight.STATE, FULL = OtherHalfOfNight.FULL;

    public static void main(String[] args) {
        toTheDrop();
        whatIsLeftGoesOn();
        cupsAreEmptyAhead();
        theMostThatCanBePoured();
        byNumbers();
        toldAhead();
        theLastNight();
        newsUpTo99();
        noneFewAndForty();
        sleepsBehindSixty();
        sleepsOfKinds();
        sleepsFromAnyNight();
        images();
        imagesOfNobodyAndFive();
        counts();
        allCallsCount();
        objectsStayApart();
        due.end();
    }

    private static void holds(OtherHalfOfNight x, int... wants) {
        for (int cup = 0; cup < wants.length; cup++) {
            due.is("cup " + cup + " holds", x.told(cup, 10), wants[cup]);
        }
    }

    private static OtherHalfOfNight yielding(String suits, int... troubles) {
        OtherHalfOfNight x = Due.ruledBy("yields trouble;suits " + suits + ";eases 0;");
        for (int i = 0; i < troubles.length; i++) {
            x.wakes(0, i, troubles[i]);
        }
        return x;
    }

    private static void toTheDrop() {
        int[][] wants = {{0, 0}, {1, 1}, {9, 9}, {10, 10}, {11, 10}, {99, 10}};
        for (int[] want : wants) {
            OtherHalfOfNight x = yielding("taste=2", want[0]);
            due.is("of " + want[0] + " into 10", x.night(), want[1]);
            holds(x, 0, 0, want[1], 0, 0, 0);
        }
        for (int want : new int[] {0, 1, 49, 50, 51, 98, 99}) {
            OtherHalfOfNight x = yielding("taste=5", 50);
            x.set(5, 5, want);
            due.is("of 50 into " + want, x.night(), Math.min(50, want));
            holds(x, 0, 0, 0, 0, 0, Math.min(50, want));
        }
    }

    private static void whatIsLeftGoesOn() {
        OtherHalfOfNight x = yielding("1", 10);
        due.is("one cup's", x.night(), 10);
        holds(x, 10, 0, 0, 0, 0, 0);
        x.set(3, 0, 11);
        due.is("and a drop", x.night(), 11);
        holds(x, 10, 1, 0, 0, 0, 0);
        x.set(3, 0, 59);
        due.is("a drop less than all want", x.night(), 59);
        holds(x, 10, 10, 10, 10, 10, 9);
        x.set(3, 0, 60);
        due.is("as all want", x.night(), 60);
        holds(x, 10, 10, 10, 10, 10, 10);
        x.set(3, 0, 61);
        due.is("no more than all want", x.night(), 60);
        holds(x, 10, 10, 10, 10, 10, 10);
        x.set(5, 0, 0);
        x.set(5, 1, 1);
        x.set(3, 0, 2);
        due.is("beside a cup that wants nothing", x.night(), 2);
        holds(x, 0, 1, 1, 0, 0, 0);
    }

    private static void cupsAreEmptyAhead() {
        OtherHalfOfNight x = yielding("1", 60);
        x.night();
        holds(x, 10, 10, 10, 10, 10, 10);
        x.set(3, 0, 5);
        due.is("what was held doesn't count", x.night(), 5);
        holds(x, 5, 0, 0, 0, 0, 0);
        x.set(5, 0, 3);
        due.is("a cup holds more than it wants till the night", x.told(0, 10), 5);
        due.is("together", x.count(1), 5);
        x.set(3, 0, 0);
        due.is("nothing is poured", x.night(), 0);
        holds(x, 0, 0, 0, 0, 0, 0);
        due.is("together", x.count(1), 0);
    }

    private static void theMostThatCanBePoured() {
        OtherHalfOfNight x = yielding("taste=number", 99, 99, 99, 99, 99);
        for (int cup = 0; cup < 6; cup++) {
            x.set(5, cup, 99);
        }
        due.is("five times 99", x.night(), 495);
        holds(x, 99, 99, 99, 99, 99, 0);
        due.is("together", x.count(1), 495);
        due.is("by 40 nights", x.run(0, 0, 40, 1), 19800);
        due.is("by 1 night", x.run(0, 4, 1, 2), 99);
        due.is("most", x.pour(0), 495);
        due.is("6 nights", x.chance(1, 1, 9999, 1), 1);
    }

    private static void byNumbers() {
        OtherHalfOfNight x = yielding("taste=0 or taste=number", 7, 7, 7, 7, 7);
        due.is("of each what is left", x.night(), 10 + 4 + 7 + 7 + 7);
        holds(x, 10, 4, 7, 7, 7, 0);
        due.is("the first's", x.blend(0, 0, 0), 7);
        due.is("the second's", x.blend(1, 0, 0), 3);
        due.is("the third's", x.blend(2, 0, 0), 0);
    }

    private static void toldAhead() {
        // were it told behind what one is eased, one would yield less
        OtherHalfOfNight x = Due.ruledBy("yields trouble;suits 1;eases trouble;");
        x.wakes(0, 0, 9);
        x.wakes(0, 0, 8);
        due.is("yields told ahead", x.night(), 17);
        due.is("all is off", x.told(0, 3) + x.told(1, 3), 0);
        // and were the night 1 more ahead, it would ease nothing
        OtherHalfOfNight y = Due.ruledBy("yields 1+(night=5)*4;suits 1;eases 3*(night=5);");
        for (int one = 0; one < 5; one++) {
            y.wakes(0, 0, 9);
        }
        y.set(0, 0, 5);
        due.is("of this night", y.night(), 25);
        for (int one = 0; one < 5; one++) {
            due.is("eased as of this night", y.told(one, 3), 6);
        }
        due.is("of the next night", y.night(), 5);
    }

    private static void theLastNight() {
        for (int night : new int[] {0, 1, 997, 998}) {
            OtherHalfOfNight x = yielding("1", 5);
            x.set(0, 0, night);
            due.is("in night " + night, x.night(), 5);
            due.is("night is 1 more", x.told(0, 0), night + 1);
            due.is("counted", x.count(2), night + 1);
        }
        OtherHalfOfNight x = new OtherHalfOfNight();
        x.set(0, 0, 998);
        due.is("nobody's last night", x.night(), 0);
        due.is("night 999", x.night(), STATE);
        due.is("night 999", x.night(), STATE);
        due.is("it stays", x.told(0, 0), 999);
    }

    private static void newsUpTo99() {
        OtherHalfOfNight x = yielding("1", 0, 1, 99);
        int[] troubles = {0, 1, 99};
        for (int one = 0; one < 3; one++) {
            due.is("news", x.news(one), troubles[one]);
            due.is("had news", x.told(one, 4), 1);
            due.is("no trouble", x.told(one, 3), 0);
            due.is("news again", x.news(one), 0);
            due.is("had news twice", x.told(one, 4), 2);
            x.set(4, one, 98);
            x.news(one);
            due.is("99", x.told(one, 4), 99);
            x.news(one);
            due.is("99 at most", x.told(one, 4), 99);
        }
        due.is("the night stays", x.count(2), 0);
        OtherHalfOfNight y = new OtherHalfOfNight();
        y.wakes(0, 0, 9);
        for (int i = 1; i <= 120; i++) {
            y.news(0);
            due.is("news " + i, y.told(0, 4), Math.min(99, i));
        }
    }

    private static void noneFewAndForty() {
        OtherHalfOfNight x = Due.ruledBy("yields trouble;suits taste=3;eases 1;");
        x.wakes(0, 0, 45);
        x.set(5, 3, 99);
        x.night();
        x.set(3, 0, 41);
        due.is("none: trouble", x.run(0, 3, 0, 0), 41);
        due.is("none: poured", x.run(0, 3, 0, 1), 0);
        due.is("none: holds as now", x.run(0, 3, 0, 2), 45);
        due.is("none: another holds as now", x.run(0, 2, 0, 2), 0);
        due.is("one: trouble", x.run(0, 3, 1, 0), 40);
        due.is("one: poured", x.run(0, 3, 1, 1), 41);
        due.is("one: holds", x.run(0, 3, 1, 2), 41);
        due.is("39: trouble", x.run(0, 3, 39, 0), 2);
        due.is("40: trouble", x.run(0, 3, 40, 0), 1);
        due.is("40: poured", x.run(0, 3, 40, 1), 860);
        due.is("40: holds what the last one poured", x.run(0, 3, 40, 2), 2);
        due.is("41", x.run(0, 3, 41, 0), BAD);
        x.set(0, 0, 999);
        due.is("40 from 999 on", x.run(0, 3, 40, 1), 860);
    }

    private static void sleepsBehindSixty() {
        for (int trouble : new int[] {0, 1, 2, 59, 60}) {
            OtherHalfOfNight x = Due.ruledBy("yields 0;suits 1;eases 1;");
            x.wakes(0, 0, trouble);
            due.is("sleeps behind " + trouble, x.sleeps(0), trouble);
            x.set(0, 0, 999);
            due.is("sleeps behind " + trouble + " from 999 on", x.sleeps(0), trouble);
        }
        for (int trouble : new int[] {61, 62, 99}) {
            OtherHalfOfNight x = Due.ruledBy("yields 0;suits 1;eases 1;");
            x.wakes(0, 0, trouble);
            due.is("more than 60", x.sleeps(0), NONE);
        }
        OtherHalfOfNight x = Due.ruledBy("yields 0;suits 1;eases 99;");
        x.wakes(0, 0, 99);
        due.is("all at once", x.sleeps(0), 1);
    }

    private static void sleepsOfKinds() {
        OtherHalfOfNight x = Due.ruledBy("yields 0;suits 1;eases 5;");
        for (int kind = 0; kind < 5; kind++) {
            x.wakes(kind, 3, 10);
        }
        // a debtor has 11 behind night 0, then 2 a night: 9, 7, 5, 3, 1, 0
        int[] wants = {2, 5, NONE, 7, NONE};
        for (int kind = 0; kind < 5; kind++) {
            due.is("sleeps, kind " + kind, x.sleeps(kind), wants[kind]);
            x.set(3, kind, 0);
            due.is("sleeps now, kind " + kind, x.sleeps(kind), 0);
        }
        OtherHalfOfNight y = Due.ruledBy("yields 0;suits 1;eases 5;");
        y.wakes(5, 3, 11);
        due.is("a snorer without news", y.sleeps(0), 3);
        y.set(4, 0, 1);
        due.is("a snorer that had news", y.sleeps(0), 1);
        y.set(3, 0, 0);
        due.is("a snorer that sleeps", y.sleeps(0), 0);
    }

    private static void sleepsFromAnyNight() {
        int[] nights = {0, 1, 2, 3, 4, 5, 6, 7, 995, 999};
        // a debtor of 3, eased by 1, but each seventh night has 1 more
        int[] wants = {5, 3, 3, 3, 3, 5, 5, 5, 3, 5};
        for (int i = 0; i < nights.length; i++) {
            OtherHalfOfNight x = Due.ruledBy("yields 0;suits 1;eases 2;");
            x.wakes(3, 0, 3);
            x.set(0, 0, nights[i]);
            due.is("debtor sleeps from " + nights[i] + " on", x.sleeps(0), wants[i]);
        }
        OtherHalfOfNight x = Due.ruledBy("yields 0;suits 1;eases 9*(night=1002);");
        x.wakes(0, 0, 9);
        x.set(0, 0, 999);
        due.is("in thought night passes 999", x.sleeps(0), 4);
    }

    private static void images() {
        OtherHalfOfNight x = new OtherHalfOfNight();
        due.is("none", x.back(), STATE);
        Due.text(x, "yields trouble;suits 1;eases 0;");
        x.wakes(1, 2, 3);
        due.is("image", x.image(), 1);
        for (int ones = 2; ones <= 5; ones++) {
            x.wakes(0, 9, 9);
        }
        due.is("full", x.wakes(0, 0, 0), FULL);
        due.is("back", x.back(), 1);
        due.is("who came since is gone", x.told(1, 2), BAD);
        due.is("the next's number", x.wakes(2, 4, 6), 1);
        due.is("the next's kind", x.told(1, 7), 2);
        due.is("the next had no news", x.told(1, 4), 0);
        due.is("back once more", x.back(), 1);
        x.set(0, 0, 999);
        x.set(1, 0, 23);
        x.force(1);
        due.is("a later image", x.image(), 1);
        x.set(0, 0, 0);
        x.set(1, 0, 0);
        x.force(0);
        due.is("back to the later one", x.back(), 1);
        due.is("its night", x.count(2), 999);
        due.is("its hour", x.told(0, 1), 23);
        due.is("its rule", x.count(5), 1);
        due.is("at its night there is no more", x.night(), STATE);
    }

    private static void imagesOfNobodyAndFive() {
        OtherHalfOfNight x = new OtherHalfOfNight();
        due.is("of nobody", x.image(), 0);
        due.is("back to nobody", x.back(), 0);
        x.wakes(5, 0, 7);
        x.news(0);
        due.is("back to nobody", x.back(), 0);
        due.is("nobody", x.count(0), 0);
        due.is("none such", x.told(0, 4), BAD);
        x.wakes(5, 0, 7);
        due.is("had no news", x.told(0, 4), 0);
        for (int one = 1; one < 5; one++) {
            x.wakes(one, one, 10 * one);
        }
        due.is("of five", x.image(), 5);
        for (int one = 0; one < 5; one++) {
            x.set(2, one, 9);
            x.news(one);
        }
        due.is("back to five", x.back(), 5);
        for (int one = 0; one < 5; one++) {
            due.is("number", x.told(one, 2), one);
            due.is("trouble", x.told(one, 3), one == 0 ? 7 : 10 * one);
            due.is("news", x.told(one, 4), 0);
        }
        for (int cup = 0; cup < 6; cup++) {
            x.set(5, cup, 90 + cup);
            x.set(6, cup, 9 - cup);
        }
        x.night();
        x.image();
        int all = x.count(1);
        for (int cup = 0; cup < 6; cup++) {
            x.set(5, cup, 0);
            x.set(6, cup, 0);
        }
        x.night();
        due.is("nothing is held", x.count(1), 0);
        x.back();
        due.is("held as then", x.count(1), all);
        for (int cup = 0; cup < 6; cup++) {
            due.is("want", x.told(cup, 5), 90 + cup);
            due.is("taste", x.told(cup, 6), 9 - cup);
        }
    }

    private static void counts() {
        OtherHalfOfNight x = new OtherHalfOfNight();
        int[] none = {0, 0, 0, 1, 0, 0};
        for (int what = 0; what < 6; what++) {
            due.is("none: count " + what, x.count(what), none[what]);
        }
        for (int i = 1; i <= 5; i++) {
            x.wakes(0, 0, 9);
            due.is("count 0", x.count(0), i);
            Due.text(x, "yields 9;suits 1;eases 0;");
            due.is("count 3", x.count(3), i + 1);
            x.force(i);
            due.is("count 5", x.count(5), i);
            x.feed(32);
            due.is("count 4", x.count(4), 1);
            x.text();
        }
        x.night();
        due.is("count 1", x.count(1), 45);
        due.is("count 2", x.count(2), 1);
        due.is("a sixth text takes none of it", x.text(), FULL);
        due.is("count 4", x.count(4), 1);
        for (int i = 2; i <= 160; i++) {
            x.feed(32);
        }
        due.is("count 4", x.count(4), 160);
    }

    /** The 512th call is as the first. */
    private static void allCallsCount() {
        OtherHalfOfNight x = new OtherHalfOfNight();
        x.wakes(0, 0, 9);
        for (int i = 1; i <= 511; i++) {
            int answer = x.night();
            if (i == 511) {
                due.is("the 512th call", answer, 10);
            }
        }
        OtherHalfOfNight y = new OtherHalfOfNight();
        int sheets = 0;
        for (int i = 1; i <= 512; i++) {
            sheets += y.sheet(i & 3, i % 3, 40);
        }
        due.is("512 sheets", sheets, 512);
    }

    /** What one object is asked is nothing to another. */
    private static void objectsStayApart() {
        OtherHalfOfNight x = new OtherHalfOfNight();
        OtherHalfOfNight y = new OtherHalfOfNight();
        String text = "yields 7;suits 1;eases 0;";
        for (int i = 0; i < text.length(); i++) {
            due.is("x's tape", x.feed(text.charAt(i)), i + 1);
            due.is("y's tape", y.count(4), 0);
        }
        due.is("x's text", x.text(), 1);
        due.is("y has none", y.force(1), BAD);
        due.is("x's rule", x.force(1), 0);
        due.is("x's first", x.wakes(0, 0, 9), 0);
        due.is("y's first", y.wakes(0, 0, 9), 0);
        due.is("x's image", x.image(), 1);
        due.is("y has none", y.back(), STATE);
        due.is("x's sheet", x.sheet(0, 0, 3), 1);
        due.is("y has none", y.cell(0, 0, 0), -11);
        due.is("x's night", x.night(), 7);
        due.is("y's night", y.count(2), 0);
        due.is("y's cups", y.count(1), 0);
        due.is("y pours by its own", y.run(0, 0, 2, 1), 20);
        due.is("x pours by its own", x.run(0, 0, 2, 1), 14);
    }
}
