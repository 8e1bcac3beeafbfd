/** YIELDS, SUITS, EASED of each KIND, at the bounds that the document names for it. */
public final class KindsTest {
    private static final Due due = new Due("KindsTest");
    private static final int SLEEPER = 0, CLERK = 1, LADY = 2, DEBTOR = 3, GIRL = 4, SNORER = 5;
    private static final String[] NAMES = {"sleeper", "clerk", "lady", "debtor", "girl", "snorer"};

    public static void main(String[] args) {
        nothingWithoutTrouble();
        oddNights();
        twice();
        twentyAtMost();
        elevenHours();
        newsOfASnorer();
        boundAheadOfTheKindAndBehindIt();
        textZero();
        suitsOfTastesAndNumbers();
        suitsOfALady();
        suitsOfADebtor();
        suitsOfAGirlAndASnorer();
        halves();
        seventhNights();
        numbersBack();
        allOfIt();
        boundOfTrouble();
        due.end();
    }

    private static OtherHalfOfNight one(String rule, int kind, int number, int trouble) {
        OtherHalfOfNight x = Due.ruledBy(rule);
        x.wakes(kind, number, trouble);
        return x;
    }

    private static OtherHalfOfNight yielding(int v, int kind, int number) {
        return one("yields " + v + ";suits 1;eases 0;", kind, number, 50);
    }

    private static void yields(OtherHalfOfNight x, String of, int want) {
        due.is("yields " + of, x.told(0, 8), want);
    }

    private static void nothingWithoutTrouble() {
        for (int kind = SLEEPER; kind <= SNORER; kind++) {
            OtherHalfOfNight x = yielding(7, kind, 9);
            x.set(0, 0, 1);
            x.set(1, 0, 23);
            int[] wants = {7, 16, 14, 16, 14, 7};
            x.set(3, 0, 0);
            yields(x, NAMES[kind] + " without trouble", 0);
            x.set(3, 0, 1);
            yields(x, NAMES[kind] + " of trouble 1", wants[kind]);
            x.set(3, 0, 99);
            yields(x, NAMES[kind] + " of trouble 99", wants[kind]);
        }
    }

    private static void oddNights() {
        int[] nights = {0, 1, 2, 3, 997, 998, 999};
        for (int night : nights) {
            for (int number : new int[] {0, 1, 9}) {
                OtherHalfOfNight x = yielding(5, CLERK, number);
                x.set(0, 0, night);
                yields(x, "clerk " + number + " in " + night, night % 2 == 1 ? 5 + number : 5);
                OtherHalfOfNight y = yielding(5, DEBTOR, number);
                y.set(0, 0, night);
                yields(y, "debtor " + number + " in " + night, night % 2 == 1 ? 5 + number : 5);
                OtherHalfOfNight z = yielding(5, SLEEPER, number);
                z.set(0, 0, night);
                yields(z, "sleeper " + number + " in " + night, 5);
            }
        }
        OtherHalfOfNight x = yielding(5, CLERK, 9);
        x.set(0, 0, 999);
        due.is("in thought: 999, 1000, 1001", x.film(0, 0, 3), 14 + 5 + 14);
    }

    private static void twice() {
        int[][] wants = {{0, 0}, {1, 2}, {49, 98}, {50, 99}, {99, 99}};
        for (int[] want : wants) {
            yields(yielding(want[0], LADY, 9), "lady by " + want[0], want[1]);
            OtherHalfOfNight x = yielding(want[0], GIRL, 9);
            x.set(1, 0, 11);
            yields(x, "girl by " + want[0], want[1]);
        }
    }

    private static void twentyAtMost() {
        int[][] wants = {{0, 0}, {1, 1}, {19, 19}, {20, 20}, {21, 20}, {99, 20}, {9999, 20}};
        for (int[] want : wants) {
            yields(yielding(want[0], DEBTOR, 9), "debtor by " + want[0], want[1]);
        }
        int[][] odd = {{0, 9}, {10, 19}, {11, 20}, {12, 20}, {20, 20}};
        for (int[] want : odd) {
            OtherHalfOfNight x = yielding(want[0], DEBTOR, 9);
            x.set(0, 0, 1);
            yields(x, "debtor in night 1 by " + want[0], want[1]);
        }
        OtherHalfOfNight clerk = yielding(20, CLERK, 9);
        clerk.set(0, 0, 1);
        yields(clerk, "clerk: no such bound", 29);
    }

    private static void elevenHours() {
        OtherHalfOfNight x = yielding(8, GIRL, 9);
        yields(x, "girl, hour 0", 0);
        for (int hour = 0; hour <= 23; hour++) {
            x.set(1, 0, hour);
            yields(x, "girl, hour " + hour, hour < 11 ? 0 : 16);
        }
        for (int kind : new int[] {SLEEPER, CLERK, LADY, DEBTOR, SNORER}) {
            OtherHalfOfNight y = yielding(8, kind, 9);
            y.set(1, 0, 10);
            yields(y, NAMES[kind] + ", hour 10", kind == LADY ? 16 : 8);
        }
    }

    private static void newsOfASnorer() {
        OtherHalfOfNight x = yielding(8, SNORER, 9);
        yields(x, "snorer without news", 8);
        int[][] wants = {{0, 8}, {1, 0}, {2, 0}, {99, 0}, {0, 8}};
        for (int[] want : wants) {
            x.set(4, 0, want[0]);
            yields(x, "snorer that had news " + want[0], want[1]);
        }
        x.news(0);
        x.set(3, 0, 50);
        yields(x, "snorer that had news", 0);
        int[] others = {8, 8, 16, 8, 16};
        for (int kind = SLEEPER; kind <= GIRL; kind++) {
            OtherHalfOfNight y = yielding(8, kind, 9);
            y.set(1, 0, 11);
            y.set(4, 0, 99);
            yields(y, NAMES[kind] + " that had news", others[kind]);
        }
    }

    private static void boundAheadOfTheKindAndBehindIt() {
        String[] rules = {"0-5", "0-1", "0", "1", "90", "91", "99", "100", "9999"};
        int[][] wants = {{0, 9, 0, 9, 0, 0}, {0, 9, 0, 9, 0, 0}, {0, 9, 0, 9, 0, 0}, {1, 10, 2, 10, 2, 1},
            {90, 99, 99, 20, 99, 90}, {91, 99, 99, 20, 99, 91}, {99, 99, 99, 20, 99, 99}, {99, 99, 99, 20, 99, 99},
            {99, 99, 99, 20, 99, 99}};
        for (int i = 0; i < rules.length; i++) {
            for (int kind = SLEEPER; kind <= SNORER; kind++) {
                OtherHalfOfNight x = one("yields " + rules[i] + ";suits 1;eases 0;", kind, 9, 50);
                x.set(0, 0, 1);
                x.set(1, 0, 11);
                yields(x, NAMES[kind] + " by " + rules[i], wants[i][kind]);
            }
        }
        OtherHalfOfNight x = yielding(89, CLERK, 9);
        x.set(0, 0, 1);
        yields(x, "clerk by 89", 98);
    }

    private static void textZero() {
        int[][] wants = {{0, 0}, {1, 2}, {97, 98}, {98, 99}, {99, 99}};
        for (int[] want : wants) {
            OtherHalfOfNight x = new OtherHalfOfNight();
            x.wakes(SLEEPER, 9, want[0]);
            yields(x, "text 0, trouble " + want[0], want[1]);
            due.is("text 0 suits", x.told(0, 9), 63);
            due.is("text 0 eases", x.eased(0), 0);
        }
    }

    /** Which of CUPS of TASTES 0 .. 9 (as bits) one SUITS: two objects tell them. */
    private static int tastes(String suits, int kind, int number) {
        int bits = 0;
        for (int from = 0; from < 10; from += 5) {
            OtherHalfOfNight x = one("yields 1;suits " + suits + ";eases 0;", kind, number, 50);
            for (int cup = 0; cup < 5; cup++) {
                x.set(6, cup, from + cup);
            }
            bits |= (x.told(0, 9) & 31) << from;
        }
        return bits;
    }

    private static void suitsOfTastesAndNumbers() {
        for (int number = 0; number <= 9; number++) {
            due.is("sleeper's no", tastes("0", SLEEPER, number), 0);
            due.is("sleeper's yes", tastes("1", SLEEPER, number), 1023);
            due.is("clerk's no", tastes("0", CLERK, number), 0);
            due.is("clerk's yes", tastes("1", CLERK, number), 1023 - (1 << number));
            due.is("debtor's yes", tastes("1", DEBTOR, number), 1023 - (1 << number) | 512);
            due.is("debtor's no", tastes("0", DEBTOR, number), 512);
        }
        for (String yes : new String[] {"1", "2", "0-1", "9999", "256*256*256*128"}) {
            due.is("what isn't 0 is yes: " + yes, tastes(yes, SLEEPER, 0), 1023);
            due.is("what isn't 0 is yes: " + yes, tastes(yes, CLERK, 3), 1023 - 8);
            due.is("what isn't 0 is yes: " + yes, tastes(yes, DEBTOR, 3), 1023 - 8);
        }
        due.is("0 alone is no", tastes("256*256*256*256", SLEEPER, 0), 0);
    }

    private static void suitsOfALady() {
        due.is("lady's no: tastes below 3", tastes("0", LADY, 0), 7);
        due.is("lady's no: tastes below 3", tastes("0", LADY, 2), 7);
        due.is("lady's yes", tastes("1", LADY, 0), 1023);
        due.is("lady's yes of 3", tastes("taste=3", LADY, 3), 15);
        due.is("lady's yes of 9", tastes("taste=9", LADY, 9), 519);
    }

    private static void suitsOfADebtor() {
        due.is("debtor, taste 8", tastes("taste=8", DEBTOR, 0), 256 + 512);
        due.is("debtor, taste 8, number 8", tastes("taste=8", DEBTOR, 8), 512);
        due.is("debtor, taste 9, number 9", tastes("taste=9", DEBTOR, 9), 512);
        due.is("clerk, taste 9, number 9", tastes("taste=9", CLERK, 9), 0);
        due.is("clerk, taste 9, number 8", tastes("taste=9", CLERK, 8), 512);
    }

    private static void suitsOfAGirlAndASnorer() {
        for (String suits : new String[] {"0", "1", "taste<3"}) {
            OtherHalfOfNight girl = one("yields 1;suits " + suits + ";eases 0;", GIRL, 5, 50);
            due.is("girl", girl.told(0, 9), 32);
            girl.set(6, 0, 5);
            girl.set(6, 5, 0);
            due.is("girl: the cup, not the taste", girl.told(0, 9), 32);
            girl.set(3, 0, 0);
            due.is("girl without trouble", girl.told(0, 9), 32);
            OtherHalfOfNight snorer = one("yields 1;suits " + suits + ";eases 0;", SNORER, 5, 50);
            due.is("snorer", snorer.told(0, 9), 63);
            snorer.set(4, 0, 99);
            due.is("snorer that had news", snorer.told(0, 9), 63);
        }
    }

    private static OtherHalfOfNight easing(String eases, int kind, int number, int trouble) {
        return one("yields 0;suits 1;eases " + eases + ";", kind, number, trouble);
    }

    private static void halves() {
        int[] values = {0, 1, 2, 3, 4, 98, 99, 100, 9999};
        int[] sleepers = {0, 1, 2, 3, 4, 98, 99, 99, 99};
        int[] clerks = {0, 0, 1, 1, 2, 49, 49, 49, 49};
        for (int i = 0; i < values.length; i++) {
            String eases = "" + values[i];
            due.is("sleeper eased by " + eases, easing(eases, SLEEPER, 9, 50).eased(0), sleepers[i]);
            due.is("clerk eased by " + eases, easing(eases, CLERK, 9, 50).eased(0), clerks[i]);
            due.is("lady eased by " + eases, easing(eases, LADY, 9, 50).eased(0), 0);
            due.is("snorer eased by " + eases, easing(eases, SNORER, 9, 50).eased(0), sleepers[i]);
            OtherHalfOfNight debtor = easing(eases, DEBTOR, 9, 50);
            debtor.set(0, 0, 1);
            due.is("debtor eased by " + eases, debtor.eased(0), clerks[i]);
        }
        for (String below : new String[] {"0-1", "0-2", "0-3", "0-9999"}) {
            for (int kind : new int[] {SLEEPER, CLERK, LADY, SNORER}) {
                due.is(NAMES[kind] + " eased by " + below, easing(below, kind, 9, 50).eased(0), 0);
            }
        }
    }

    private static void seventhNights() {
        int[] nights = {0, 1, 6, 7, 8, 13, 14, 15, 993, 994, 995, 999};
        for (int night : nights) {
            boolean seventh = night == 0 || night == 7 || night == 14 || night == 994;
            for (int trouble : new int[] {0, 1, 98, 99}) {
                OtherHalfOfNight x = easing("9", DEBTOR, 5, trouble);
                x.set(0, 0, night);
                due.is("debtor eased in " + night, x.eased(0), seventh ? -1 : 4);
                int then = seventh ? Math.min(99, trouble + 1) : Math.max(0, trouble - 4);
                due.is("debtor of " + trouble + " behind " + night, x.run(0, 0, 1, 0), then);
            }
            OtherHalfOfNight clerk = easing("9", CLERK, 5, 50);
            clerk.set(0, 0, night);
            due.is("clerk eased in " + night, clerk.eased(0), 4);
        }
        OtherHalfOfNight x = easing("2", DEBTOR, 5, 50);
        x.set(0, 0, 999);
        // 999 and 1000 are none, 1001 is 143 times 7
        int[] troubles = {50, 49, 48, 49, 48, 47, 46, 45, 44, 43, 44};
        for (int n = 0; n < troubles.length; n++) {
            due.is("debtor behind " + n + " from 999 on", x.run(0, 0, n, 0), troubles[n]);
        }
    }

    private static void numbersBack() {
        for (int number = 0; number <= 9; number++) {
            OtherHalfOfNight x = easing("50", GIRL, number, 0);
            due.is("girl " + number, x.eased(0), -number);
            due.is("girl " + number + " without trouble", x.run(0, 0, 1, 0), number);
            x.set(3, 0, 99 - number);
            due.is("girl " + number + " to 99", x.run(0, 0, 1, 0), 99);
            x.set(3, 0, 99);
            due.is("girl " + number + " at 99", x.run(0, 0, 1, 0), 99);
        }
    }

    private static void allOfIt() {
        for (int trouble : new int[] {0, 1, 50, 99}) {
            OtherHalfOfNight x = easing("7", SNORER, 9, trouble);
            due.is("snorer without news", x.eased(0), 7);
            for (int news : new int[] {1, 2, 99}) {
                x.set(4, 0, news);
                due.is("snorer that had news: all of it", x.eased(0), trouble);
                due.is("snorer that had news: none is left", x.run(0, 0, 1, 0), 0);
            }
            x.set(4, 0, 0);
            due.is("snorer without news", x.eased(0), 7);
            OtherHalfOfNight y = easing("7", SLEEPER, 9, trouble);
            y.set(4, 0, 9);
            due.is("sleeper that had news", y.eased(0), 7);
        }
    }

    private static void boundOfTrouble() {
        int[][] troubles = {{0, 0}, {1, 0}, {6, 0}, {7, 0}, {8, 1}, {99, 92}};
        for (int[] trouble : troubles) {
            OtherHalfOfNight x = easing("7", SLEEPER, 9, trouble[0]);
            due.is("eased is not cut to the trouble", x.eased(0), 7);
            x.night();
            due.is("trouble " + trouble[0] + " less 7", x.told(0, 3), trouble[1]);
        }
        OtherHalfOfNight girl = easing("7", GIRL, 9, 89);
        int[] wants = {98, 99, 99};
        for (int want : wants) {
            girl.night();
            due.is("girl's trouble", girl.told(0, 3), want);
        }
        OtherHalfOfNight debtor = easing("7", DEBTOR, 9, 99);
        debtor.night();
        due.is("debtor's trouble", debtor.told(0, 3), 99);
    }
}
