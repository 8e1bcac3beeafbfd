/**
 * Refusals: the first that the call's words name, where more than one is due; full, and one more; nothing that was
 * kept; and that nothing is otherwise behind them.
 */
public final class RefusalsTest {
    private static final Due due = new Due("RefusalsTest");
    private static final int BAD = OtherHalfOfNight.BAD, STATE = OtherHalfOfNight.STATE, FULL = OtherHalfOfNight.FULL;
    private static final int NONE = OtherHalfOfNight.NONE;
    private static final int MISSING = -11, OUTSIDE = -12, UNLIKE = -13, BELOW = -14;
    private static final int LEAST = Integer.MIN_VALUE, MOST = Integer.MAX_VALUE;
    private static final int[] SHEETS = {LEAST, -1, 0, 1, 2, 3, 4, MOST};

    public static void main(String[] args) {
        wakesWhereFiveAre();
        feedsAFullTape();
        textsAreFull();
        noNightBehindTheLast();
        noImage();
        sheetInOrder();
        cellInOrder();
        copyInOrder();
        houseInOrder();
        houseWhereFiveAre();
        takenInOrder();
        tellsInOrder();
        due.end();
    }

    private static void wakesWhereFiveAre() {
        Twins four = new Twins(due, "four", Twins::lived);
        four.otherwise("the fifth", x -> x.wakes(0, 0, 0), 4);
        Twins five = new Twins(due, "five", x -> {
            Twins.lived(x);
            x.wakes(5, 9, 99);
        });
        five.same("one more", x -> x.wakes(0, 0, 0), FULL);
        five.same("one more", x -> x.wakes(5, 9, 99), FULL);
        int[][] bad = {{-1, 0, 0}, {6, 0, 0}, {0, -1, 0}, {0, 10, 0}, {0, 0, -1}, {0, 0, 100}, {LEAST, LEAST, LEAST},
            {MOST, MOST, MOST}};
        for (int[] b : bad) {
            five.same("bad ahead of full", x -> x.wakes(b[0], b[1], b[2]), BAD);
        }
        five.otherwise("back, so that there is room", x -> x.back(), 3);
        OtherHalfOfNight x = five.one();
        x.back();
        due.is("room again", x.wakes(0, 0, 0), 3);
        due.is("room again", x.wakes(0, 0, 0), 4);
        due.is("and full", x.wakes(0, 0, 0), FULL);
        due.is("five", x.count(0), 5);
    }

    private static void blanks(OtherHalfOfNight x, int many) {
        for (int i = 0; i < many; i++) {
            x.feed(32);
        }
    }

    private static void feedsAFullTape() {
        Twins last = new Twins(due, "159", x -> blanks(x, 159));
        last.otherwise("the last", x -> x.feed(0), 160);
        Twins full = new Twins(due, "160", x -> blanks(x, 160));
        for (int letter : new int[] {0, 32, 255}) {
            full.same("one more", x -> x.feed(letter), FULL);
        }
        for (int letter : new int[] {-1, 256, LEAST, MOST}) {
            full.same("bad ahead of full", x -> x.feed(letter), BAD);
        }
        OtherHalfOfNight x = full.one();
        due.is("full", x.feed('y'), FULL);
        due.is("what was refused is none of it", x.text(), -260);
        due.is("room again", x.feed(0), 1);
    }

    private static void sixTexts(OtherHalfOfNight x) {
        for (int i = 1; i <= 5; i++) {
            Due.text(x, "yields " + i + ";suits 1;eases 0;");
        }
        x.wakes(0, 0, 1);
        x.force(5);
    }

    private static void textsAreFull() {
        Twins five = new Twins(due, "five texts", x -> {
            for (int i = 1; i <= 4; i++) {
                Due.text(x, "yields " + i + ";suits 1;eases 0;");
            }
        });
        OtherHalfOfNight last = five.one();
        due.is("a fault takes no room", Due.text(last, "yields;"), -106);
        due.is("the sixth", Due.text(last, "yields 5;suits 1;eases 0;"), 5);
        due.is("six", last.count(3), 6);
        due.is("it is there", last.force(5), 0);
        String[] tapes = {"", "y", " ", "yields 9;suits 0;eases 9;"};
        for (String tape : tapes) {
            Twins full = new Twins(due, "six texts, tape '" + tape + "'", x -> {
                sixTexts(x);
                Twins.feed(x, tape);
            });
            full.same("one more", x -> x.text(), FULL);
            full.same("one more, twice", x -> x.text() + x.text(), 2 * FULL);
            full.same("no seventh", x -> x.force(6), BAD);
            OtherHalfOfNight x = full.one();
            x.text();
            due.is("the tape stays", x.count(4), tape.length());
            due.is("and takes more", x.feed(59), tape.length() + 1);
            for (int text = 0; text < 6; text++) {
                x.force(text);
                due.is("text " + text + " stays", x.told(0, 8), text == 0 ? 2 : text);
            }
        }
    }

    private static void noNightBehindTheLast() {
        Twins last = new Twins(due, "999", x -> {
            Twins.lived(x);
            x.set(0, 0, 999);
        });
        last.same("night", x -> x.night(), STATE);
        last.same("night, twice", x -> x.night() + x.night(), 2 * STATE);
        OtherHalfOfNight x = last.one();
        due.is("set back by one", x.set(0, 0, 998), 999);
        due.is("there is a night", x.night() >= 0 ? 0 : 1, 0);
        due.is("the last", x.told(0, 0), 999);
        due.is("no more", x.night(), STATE);
    }

    private static void noImage() {
        Twins none = new Twins(due, "no image", x -> {
            x.wakes(0, 4, 9);
            x.night();
            x.set(1, 0, 5);
        });
        none.same("back", x -> x.back(), STATE);
        none.otherwise("image", x -> x.image(), 1);
    }

    /** SHEET 0: 5 bytes, 1: 3 bytes, 2: 4 shorts, 3: missing. */
    private static OtherHalfOfNight rows() {
        OtherHalfOfNight x = new OtherHalfOfNight();
        x.sheet(0, 0, 5);
        x.sheet(1, 0, 3);
        x.sheet(2, 1, 4);
        return x;
    }

    private static boolean isSheet(int sheet) {
        return sheet >= 0 && sheet <= 3;
    }

    private static int sort(int sheet) {
        return sheet < 2 ? 0 : 1;
    }

    private static int size(int sheet) {
        return new int[] {5, 3, 4}[sheet];
    }

    private static void sheetInOrder() {
        for (int sheet : SHEETS) {
            for (int sort : new int[] {LEAST, -2, -1, 0, 1, 2, 3, MOST}) {
                for (int n : new int[] {LEAST, -1, 0, 1, 40, 41, MOST}) {
                    int want = !isSheet(sheet) || sort < -1 || sort > 2 ? BAD
                            : sort == -1 ? 1 : n > 40 ? BAD : n < 0 ? BELOW : 1;
                    due.is("sheet(" + sheet + ", " + sort + ", " + n + ")", rows().sheet(sheet, sort, n), want);
                }
            }
        }
    }

    private static void cellInOrder() {
        for (int sheet : SHEETS) {
            for (int i : new int[] {LEAST, -1, 0, 2, 3, 4, 5, 40, MOST}) {
                int want = !isSheet(sheet) ? BAD : sheet == 3 ? MISSING : i < 0 || i >= size(sheet) ? OUTSIDE : 1;
                due.is("cell(" + sheet + ", " + i + ")", rows().cell(sheet, i, i), want);
            }
        }
    }

    private static int copied(int sheet, int i, int other, int j, int n) {
        if (!isSheet(sheet) || !isSheet(other)) {
            return BAD;
        }
        if (sheet == 3 || other == 3) {
            return MISSING;
        }
        if (sort(sheet) != sort(other)) {
            return UNLIKE;
        }
        boolean inside = n >= 0 && i >= 0 && j >= 0 && (long) i + n <= size(sheet) && (long) j + n <= size(other);
        return inside ? n : OUTSIDE;
    }

    private static void copyInOrder() {
        int[] sheets = {-1, 0, 1, 2, 3, 4};
        int[] places = {LEAST, -1, 0, 2, 3, 4, 5, 6, MOST};
        int[] many = {LEAST, -1, 0, 1, 2, 3, 5, 6, MOST};
        for (int sheet : sheets) {
            for (int other : sheets) {
                for (int i : places) {
                    for (int j : places) {
                        for (int n : many) {
                            due.is("copy(" + sheet + ", " + i + ", " + other + ", " + j + ", " + n + ")",
                                    rows().copy(sheet, i, other, j, n), copied(sheet, i, other, j, n));
                        }
                    }
                }
            }
        }
    }

    private static int housed(int sheet, int sort, int from, int n) {
        if (!isSheet(sheet) || sort < 0 || sort > 2 || n < 0 || n > 5) {
            return BAD;
        }
        if (sheet == 3) {
            return MISSING;
        }
        if (sort != sort(sheet)) {
            return UNLIKE;
        }
        boolean inside = n == 0 || from >= 0 && (long) from + 3 * n <= size(sheet);
        return inside ? n : OUTSIDE;
    }

    private static void houseInOrder() {
        for (int sheet : SHEETS) {
            for (int sort : new int[] {LEAST, -2, -1, 0, 1, 2, 3, MOST}) {
                for (int from : new int[] {LEAST, -3, -1, 0, 1, 2, 3, 5, MOST - 3, MOST}) {
                    for (int n : new int[] {LEAST, -1, 0, 1, 2, 5, 6, MOST}) {
                        OtherHalfOfNight x = rows();
                        String call = "house(" + sheet + ", " + sort + ", " + from + ", " + n + ")";
                        int want = housed(sheet, sort, from, n);
                        due.is(call, x.house(sheet, sort, from, n), want);
                        // rows of 3 to 5 hold one three: it came though the next one is outside
                        boolean first = want == OUTSIDE && from >= 0 && from + 3L <= size(sheet);
                        due.is("came by " + call, x.count(0), want > 0 ? want : first ? 1 : 0);
                    }
                }
            }
        }
    }

    private static void houseWhereFiveAre() {
        OtherHalfOfNight x = new OtherHalfOfNight();
        Due.row(x, 0, 0, 1, 1, 1, 2, 2, 2, 3, 3, 3, 4, 4, 4, 5, 5, 5);
        for (int ones = 0; ones < 3; ones++) {
            x.wakes(0, 9, 9);
        }
        due.is("two have room", x.house(0, 0, 0, 5), 2);
        due.is("the last of them", x.told(4, 7), 2);
        due.is("none has room", x.house(0, 0, 0, 5), 0);
        due.is("outside, though none has room", x.house(0, 0, 3, 5), OUTSIDE);
        due.is("five", x.count(0), 5);
        due.is("the last stays", x.told(4, 2), 2);
        OtherHalfOfNight y = new OtherHalfOfNight();
        Due.row(y, 0, 0, 1, 1, 1, 2, 2, 2, 3, 3, 3, 4, 4, 4, 5, 5, 5);
        due.is("five at once", y.house(0, 0, 0, 5), 5);
        for (int one = 0; one < 5; one++) {
            due.is("as it stood", y.told(one, 7), one + 1);
        }
    }

    private static void takenInOrder() {
        for (int one : new int[] {LEAST, -1, 0, 1, MOST}) {
            for (int k : new int[] {LEAST, -1, 0, 1, 2, 3, 4, 5, 6, MOST}) {
                OtherHalfOfNight x = new OtherHalfOfNight();
                x.wakes(3, 7, 9);
                int want = k < 0 || k > 5 ? BAD : one != 0 ? MISSING : k == 0 || k == 1 || k == 3 ? 7 : UNLIKE;
                due.is("taken(" + one + ", " + k + ")", x.taken(one, k), want);
            }
        }
    }

    private static void tellsInOrder() {
        for (int size : new int[] {-1, 0, 1, 20, 21, 40}) {
            for (int sheet : new int[] {LEAST, -1, 0, 3, 4, MOST}) {
                for (int one : new int[] {LEAST, -1, 0, 1, MOST}) {
                    for (int what : new int[] {LEAST, -1, 0, 7, 8, MOST}) {
                        OtherHalfOfNight x = new OtherHalfOfNight();
                        x.wakes(0, 7, 0);
                        x.sheet(Math.max(0, Math.min(3, sheet)), size < 0 ? -1 : 2, size);
                        int answer = what == 0 ? NONE : 1;
                        int want = !isSheet(sheet) || one != 0 || what < 0 || what > 7 ? BAD
                                : size < 0 ? MISSING : size > 20 ? BAD : answer;
                        due.is("tells(" + sheet + ", " + one + ", " + what + ") of " + size,
                                x.tells(sheet, one, what), want);
                    }
                }
            }
        }
    }
}
