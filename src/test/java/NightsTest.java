/** Promises 9 to 12: night, news, run, sleeps. */
public final class NightsTest {
    private static final Due due = new Due("NightsTest");
    private static final int BAD = OtherHalfOfNight.BAD, NONE = OtherHalfOfNight.NONE;
    private static final int STATE = OtherHalfOfNight.STATE;

    public static void main(String[] args) {
        promise9();
        promise9Eases();
        promise9Ends();
        promise10();
        promise11();
        promise11Refuses();
        promise11PassesTheLastNight();
        promise12();
        due.end();
    }

    private static void holds(OtherHalfOfNight x, int... wants) {
        for (int cup = 0; cup < wants.length; cup++) {
            due.is("cup " + cup + " holds", x.told(cup, 10), wants[cup]);
        }
    }

    private static void promise9() {
        // 0 goes into 0, 2, 4; 1, a girl, into 5; 2, a lady, into all by her tastes
        OtherHalfOfNight x = Due.ruledBy("yields trouble;suits taste=0 or taste=2 or taste=4;eases 1;");
        x.wakes(0, 0, 17);
        x.wakes(4, 3, 20);
        x.wakes(2, 0, 6);
        x.set(1, 0, 11);
        x.set(5, 4, 0);
        x.set(5, 5, 30);
        due.is("poured", x.night(), 17 + 30 + 10 + 2);
        holds(x, 10, 10, 9, 0, 0, 30);
        due.is("night 1", x.told(0, 0), 1);
        due.is("hour stays", x.told(0, 1), 11);
        due.is("a sleeper is eased", x.told(0, 3), 16);
        due.is("a girl has more", x.told(1, 3), 23);
        due.is("a lady isn't eased", x.told(2, 3), 6);
        x.set(5, 0, 3);
        due.is("poured anew", x.night(), 3 + 10 + 30 + 10);
        holds(x, 3, 10, 10, 0, 0, 30);
        due.is("nobody's", new OtherHalfOfNight().night(), 0);
    }

    private static void promise9Eases() {
        OtherHalfOfNight x = Due.ruledBy("yields 0;suits 1;eases 7;");
        x.wakes(0, 0, 5);
        x.wakes(4, 9, 95);
        x.wakes(3, 0, 99);
        x.wakes(5, 0, 50);
        x.wakes(1, 0, 50);
        x.set(4, 3, 1);
        due.is("nothing is poured", x.night(), 0);
        due.is("not below 0", x.told(0, 3), 0);
        due.is("not above 99", x.told(1, 3), 99);
        due.is("a debtor, not above 99", x.told(2, 3), 99);
        due.is("all of it", x.told(3, 3), 0);
        due.is("half", x.told(4, 3), 47);
        x.set(3, 2, 50);
        due.is("night 1", x.night(), 0);
        due.is("a debtor as a clerk", x.told(2, 3), 47);
        OtherHalfOfNight y = Due.ruledBy("yields 0;suits 1;eases night=0;");
        y.wakes(0, 0, 5);
        y.wakes(0, 0, 5);
        y.night();
        due.is("told ahead", y.told(0, 3), 4);
        due.is("told ahead of all", y.told(1, 3), 4);
        y.night();
        due.is("then no more", y.told(1, 3), 4);
    }

    private static void promise9Ends() {
        OtherHalfOfNight x = new OtherHalfOfNight();
        x.wakes(0, 0, 5);
        x.set(0, 0, 998);
        due.is("the last night", x.night(), 6);
        due.is("night 999", x.count(2), 999);
        x.set(5, 0, 1);
        due.is("no more", x.night(), STATE);
        due.is("night 999 stays", x.count(2), 999);
        due.is("cups stay", x.told(0, 10), 6);
    }

    private static void promise10() {
        OtherHalfOfNight x = new OtherHalfOfNight();
        x.wakes(0, 0, 12);
        x.wakes(5, 0, 13);
        due.is("news", x.news(1), 13);
        due.is("no trouble", x.told(1, 3), 0);
        due.is("had news", x.told(1, 4), 1);
        due.is("news again", x.news(1), 0);
        due.is("had news twice", x.told(1, 4), 2);
        x.set(4, 1, 99);
        x.set(3, 1, 8);
        due.is("news at 99", x.news(1), 8);
        due.is("99 at most", x.told(1, 4), 99);
        due.is("another's stays", x.told(0, 3), 12);
        due.is("another had none", x.told(0, 4), 0);
        due.is("none such", x.news(2), BAD);
        due.is("none below", x.news(-1), BAD);
    }

    private static OtherHalfOfNight easing() {
        OtherHalfOfNight x = Due.ruledBy("yields trouble;suits 1;eases 4;");
        x.wakes(0, 0, 9);
        x.wakes(4, 2, 50);
        x.set(1, 0, 11);
        x.set(5, 5, 99);
        return x;
    }

    private static void promise11() {
        OtherHalfOfNight x = easing();
        due.is("none: trouble as now", x.run(0, 0, 0, 0), 9);
        due.is("none: nothing poured", x.run(0, 0, 0, 1), 0);
        due.is("none: holds as now", x.run(0, 0, 0, 2), 0);
        int[] trouble = {9, 5, 1, 0, 0};
        int[] more = {50, 52, 54, 56, 58};
        int[] poured = {0, 108, 212, 312, 411};
        for (int n = 0; n < 5; n++) {
            due.is("trouble in " + n, x.run(0, 0, n, 0), trouble[n]);
            due.is("a girl's trouble in " + n, x.run(1, 0, n, 0), more[n]);
            due.is("poured in " + n, x.run(0, 0, n, 1), poured[n]);
        }
        due.is("holds behind 1", x.run(0, 0, 1, 2), 9);
        due.is("holds behind 2", x.run(0, 0, 2, 2), 5);
        due.is("holds behind 4", x.run(0, 0, 4, 2), 0);
        due.is("the last cup behind 1", x.run(0, 5, 1, 2), 99);
        due.is("40 nights", x.run(1, 0, 40, 0), 99);
        due.is("in thought: night", x.count(2), 0);
        due.is("in thought: trouble", x.told(0, 3), 9);
        due.is("in thought: holds", x.count(1), 0);
        due.is("truly", x.night(), 108);
        due.is("none: holds as now", x.run(0, 5, 0, 2), 99);
        due.is("none: holds as now", x.run(0, 0, 0, 2), 9);
    }

    private static void promise11Refuses() {
        OtherHalfOfNight x = easing();
        for (int what = 0; what < 3; what++) {
            due.is("none such", x.run(2, 0, 1, what), BAD);
            due.is("none below", x.run(-1, 0, 1, what), BAD);
            due.is("no such cup", x.run(0, 6, 1, what), BAD);
            due.is("no cup below", x.run(0, -1, 1, what), BAD);
            due.is("nights above", x.run(0, 0, 41, what), BAD);
            due.is("nights below", x.run(0, 0, -1, what), BAD);
        }
        due.is("what above", x.run(0, 0, 1, 3), BAD);
        due.is("what below", x.run(0, 0, 1, -1), BAD);
    }

    private static void promise11PassesTheLastNight() {
        OtherHalfOfNight x = Due.ruledBy("yields night-990;suits 1;eases 0;");
        x.wakes(0, 0, 9);
        x.set(0, 0, 999);
        due.is("in thought night passes 999", x.run(0, 0, 4, 1), 9 + 10 + 11 + 12);
    }

    private static void promise12() {
        OtherHalfOfNight x = easing();
        due.is("sleeps behind 3", x.sleeps(0), 3);
        due.is("never", x.sleeps(1), NONE);
        x.set(3, 0, 0);
        due.is("sleeps now", x.sleeps(0), 0);
        x.set(3, 0, 8);
        due.is("sleeps behind 2", x.sleeps(0), 2);
        due.is("in thought: night", x.count(2), 0);
        due.is("in thought: trouble", x.told(0, 3), 8);
        due.is("none such", x.sleeps(2), BAD);
        due.is("none below", x.sleeps(-1), BAD);
        OtherHalfOfNight y = Due.ruledBy("yields 0;suits 1;eases 1;");
        y.wakes(0, 0, 60);
        y.wakes(0, 0, 61);
        due.is("60 is no more than told", y.sleeps(0), 60);
        due.is("61 is more than told", y.sleeps(1), NONE);
        y.set(0, 0, 999);
        due.is("in thought night passes 999", y.sleeps(0), 60);
        OtherHalfOfNight z = Due.ruledBy("yields 0;suits 1;eases 2;");
        z.wakes(3, 0, 5);
        // 5, 6, 5, 4, 3, 2, 1, 0: each seventh night a debtor has 1 more
        due.is("a debtor", z.sleeps(0), 7);
        z.set(3, 0, 6);
        due.is("a debtor", z.sleeps(0), 10);
    }
}
