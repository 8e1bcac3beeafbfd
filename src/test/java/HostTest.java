/** Promises 23 to 27: sheet, cell, copy, house, taken. */
public final class HostTest {
    private static final Due due = new Due("HostTest");
    private static final int BAD = OtherHalfOfNight.BAD;
    private static final int MISSING = -11, OUTSIDE = -12, UNLIKE = -13, BELOW = -14;
    private static final int LEAST = Integer.MIN_VALUE, MOST = Integer.MAX_VALUE;

    public static void main(String[] args) {
        promise23();
        promise23Refuses();
        promise24();
        promise24CutsToBits();
        promise25();
        promise25Overlaps();
        promise25Refuses();
        promise26();
        promise26Outside();
        promise26Refuses();
        promise27();
        due.end();
    }

    /** The items are told as who comes by them: kind and number 0, and the item as trouble. */
    private static void item(OtherHalfOfNight x, int sheet, int sort, int i, int want) {
        x.image();
        due.is("who comes by item " + i, x.house(sheet, sort, i - 2, 1), 1);
        due.is("item " + i, x.told(x.count(0) - 1, 3), want);
        x.back();
    }

    private static void promise23() {
        OtherHalfOfNight x = new OtherHalfOfNight();
        for (int sort = 0; sort < 3; sort++) {
            due.is("a row", x.sheet(sort, sort, 40), 1);
            due.is("its last item", x.cell(sort, 39, 7), 1);
            due.is("no further", x.cell(sort, 40, 7), OUTSIDE);
            due.is("the sort", x.house(sort, sort, 0, 0), 0);
            due.is("no other sort", x.house(sort, (sort + 1) % 3, 0, 0), UNLIKE);
            item(x, sort, sort, 39, 7);
            due.is("anew", x.sheet(sort, sort, 40), 1);
            item(x, sort, sort, 39, 0);
            Due.row(x, sort, sort, 5, 6, 7);
            x.sheet(sort, sort, 3);
            x.image();
            due.is("who comes by nothing", x.house(sort, sort, 0, 1), 1);
            due.is("nothing but 0", x.told(0, 7) + x.told(0, 2) + x.told(0, 3), 0);
            x.back();
            x.sheet(sort, sort, 40);
        }
        due.is("a row of none", x.sheet(3, 2, 0), 1);
        due.is("it is there", x.cell(3, 0, 0), OUTSIDE);
        due.is("another sort", x.sheet(0, 2, 3), 1);
        due.is("the sort", x.house(0, 2, 0, 0), 0);
        due.is("missing", x.sheet(0, -1, 3), 1);
        due.is("it is missing", x.cell(0, 0, 0), MISSING);
        due.is("missing: n doesn't matter", x.sheet(1, -1, 41), 1);
        due.is("missing: n doesn't matter", x.sheet(1, -1, -1), 1);
        due.is("it is missing", x.cell(1, 0, 0), MISSING);
        due.is("others stay", x.cell(2, 39, 0), 1);
    }

    private static void promise23Refuses() {
        OtherHalfOfNight x = new OtherHalfOfNight();
        x.sheet(0, 1, 2);
        for (int sheet : new int[] {-1, 4, LEAST, MOST}) {
            due.is("no such sheet", x.sheet(sheet, 0, 1), BAD);
            due.is("no such sheet", x.sheet(sheet, -1, 1), BAD);
        }
        for (int sort : new int[] {-2, 3, LEAST, MOST}) {
            due.is("no such sort", x.sheet(0, sort, 1), BAD);
        }
        due.is("n above", x.sheet(0, 0, 41), BAD);
        due.is("n far above", x.sheet(0, 0, MOST), BAD);
        due.is("n below", x.sheet(0, 0, -1), BELOW);
        due.is("n far below", x.sheet(0, 0, LEAST), BELOW);
        due.is("sort ahead of n", x.sheet(0, 3, -1), BAD);
        due.is("refused changes nothing", x.cell(0, 1, 0), 1);
        due.is("refused changes nothing", x.house(0, 1, 0, 0), 0);
    }

    private static void promise24() {
        OtherHalfOfNight x = new OtherHalfOfNight();
        x.sheet(1, 2, 6);
        due.is("cell", x.cell(1, 2, 41), 1);
        due.is("cell", x.cell(1, 5, 42), 1);
        item(x, 1, 2, 2, 41);
        item(x, 1, 2, 5, 42);
        due.is("outside", x.cell(1, 6, 1), OUTSIDE);
        due.is("outside", x.cell(1, MOST, 1), OUTSIDE);
        due.is("below", x.cell(1, -1, 1), OUTSIDE);
        due.is("far below", x.cell(1, LEAST, 1), OUTSIDE);
        due.is("missing", x.cell(0, 0, 1), MISSING);
        due.is("missing ahead of outside", x.cell(0, -1, 1), MISSING);
        due.is("no such sheet", x.cell(4, 0, 1), BAD);
        due.is("no sheet below", x.cell(-1, 0, 1), BAD);
    }

    private static void promise24CutsToBits() {
        OtherHalfOfNight x = new OtherHalfOfNight();
        int[] values = {256 + 7, 65536 + 8, -256 + 9, LEAST + 10};
        int[][] wants = {{7, 8, 9, 10}, {-1, 8, -1, 10}, {-1, -1, -1, -1}};
        for (int sort = 0; sort < 3; sort++) {
            for (int i = 0; i < values.length; i++) {
                Due.row(x, 0, sort, 0, 0, values[i]);
                if (wants[sort][i] >= 0) {
                    item(x, 0, sort, 2, wants[sort][i]);
                } else {
                    due.is("left out", x.house(0, sort, 0, 1), 0);
                }
            }
        }
        for (int sort = 0; sort < 3; sort++) {
            Due.row(x, 0, sort, 0, 0, 99);
            item(x, 0, sort, 2, 99);
            Due.row(x, 0, sort, 0, 0, 200);
            due.is("left out", x.house(0, sort, 0, 1), 0);
            Due.row(x, 0, sort, 0, 0, -1);
            due.is("left out", x.house(0, sort, 0, 1), 0);
        }
    }

    private static void promise25() {
        OtherHalfOfNight x = new OtherHalfOfNight();
        for (int sort = 0; sort < 3; sort++) {
            Due.row(x, 0, sort, 11, 12, 13, 14, 15);
            int[] wants = {0, 0, 0, 12, 13, 14, 15, 0, 0};
            for (int i = 2; i < wants.length; i++) {
                x.sheet(1, sort, 9);
                due.is("copy", x.copy(0, 1, 1, 3, 4), 4);
                // the two ahead must be a kind and a number
                x.cell(1, i - 1, 0);
                x.cell(1, i - 2, 0);
                item(x, 1, sort, i, wants[i]);
            }
        }
        due.is("all", x.copy(0, 0, 1, 4, 5), 5);
        due.is("none", x.copy(0, 0, 1, 0, 0), 0);
        due.is("none at the ends", x.copy(0, 5, 1, 9, 0), 0);
        due.is("none onto itself", x.copy(0, 5, 0, 5, 0), 0);
    }

    private static void promise25Overlaps() {
        OtherHalfOfNight x = new OtherHalfOfNight();
        Due.row(x, 2, 0, 1, 2, 3, 4, 5);
        due.is("copy up onto itself", x.copy(2, 0, 2, 1, 4), 4);
        OtherHalfOfNight up = Due.ruledBy("yields night+1-(0<night);suits 1;eases 0;");
        Due.row(up, 2, 0, 1, 2, 3, 4, 5);
        up.copy(2, 0, 2, 1, 4);
        up.wakes(0, 0, 1);
        due.is("as they were: 1, 1, 2, 3, 4", up.tells(2, 0, 0), -1);
        OtherHalfOfNight down = Due.ruledBy("yields night+2-(night=4);suits 1;eases 0;");
        Due.row(down, 2, 0, 1, 2, 3, 4, 5);
        due.is("copy down onto itself", down.copy(2, 1, 2, 0, 4), 4);
        down.wakes(0, 0, 1);
        due.is("as they were: 2, 3, 4, 5, 5", down.tells(2, 0, 0), -1);
    }

    private static void promise25Refuses() {
        OtherHalfOfNight x = new OtherHalfOfNight();
        x.sheet(0, 0, 5);
        x.sheet(1, 0, 3);
        x.sheet(2, 1, 5);
        for (int sheet : new int[] {-1, 4, LEAST, MOST}) {
            due.is("no such sheet", x.copy(sheet, 0, 1, 0, 1), BAD);
            due.is("no such other", x.copy(1, 0, sheet, 0, 1), BAD);
            due.is("no such other, ahead of missing", x.copy(3, 0, sheet, 0, 1), BAD);
        }
        due.is("missing", x.copy(3, 0, 0, 0, 1), MISSING);
        due.is("the other missing", x.copy(0, 0, 3, 0, 1), MISSING);
        due.is("missing ahead of outside", x.copy(0, -1, 3, 0, 1), MISSING);
        due.is("unlike", x.copy(0, 0, 2, 0, 1), UNLIKE);
        due.is("unlike ahead of outside", x.copy(0, 0, 2, 9, -1), UNLIKE);
        due.is("n below", x.copy(0, 1, 1, 1, -1), OUTSIDE);
        due.is("n far below", x.copy(0, 1, 1, 1, LEAST), OUTSIDE);
        due.is("i below", x.copy(0, -1, 1, 0, 1), OUTSIDE);
        due.is("j below", x.copy(0, 0, 1, -1, 1), OUTSIDE);
        due.is("i below, none", x.copy(0, -1, 1, 0, 0), OUTSIDE);
        due.is("i above", x.copy(0, 5, 1, 0, 1), OUTSIDE);
        due.is("i above, none", x.copy(0, 6, 1, 0, 0), OUTSIDE);
        due.is("j above", x.copy(0, 0, 1, 3, 1), OUTSIDE);
        due.is("j above, none", x.copy(0, 0, 1, 4, 0), OUTSIDE);
        due.is("n above", x.copy(0, 0, 1, 0, 4), OUTSIDE);
        due.is("n above the sheet's", x.copy(1, 0, 0, 0, 4), OUTSIDE);
        due.is("i and n wrap", x.copy(0, MOST, 1, 0, 1), OUTSIDE);
        due.is("n and i wrap", x.copy(0, 1, 1, 0, MOST), OUTSIDE);
        due.is("j wraps", x.copy(0, 0, 1, MOST, 2), OUTSIDE);
        due.is("least", x.copy(0, LEAST, 1, LEAST, LEAST), OUTSIDE);
    }

    private static void promise26() {
        for (int sort = 0; sort < 3; sort++) {
            OtherHalfOfNight x = new OtherHalfOfNight();
            Due.row(x, 0, sort, 9, 3, 1, 2, 6, 0, 0, 5, 9, 99, 0, 0, 100, 4, 4, 4);
            due.is("none of them", x.house(0, sort, 1, 0), 0);
            due.is("who came", x.house(0, sort, 1, 5), 3);
            due.is("three", x.count(0), 3);
            int[][] wants = {{3, 1, 2}, {5, 9, 99}, {4, 4, 4}};
            for (int one = 0; one < 3; one++) {
                due.is("kind", x.told(one, 7), wants[one][0]);
                due.is("number", x.told(one, 2), wants[one][1]);
                due.is("trouble", x.told(one, 3), wants[one][2]);
                due.is("news", x.told(one, 4), 0);
            }
            due.is("then it is full", x.house(0, sort, 1, 5), 2);
            due.is("five", x.count(0), 5);
            due.is("all are left out", x.house(0, sort, 1, 5), 0);
        }
    }

    private static void promise26Outside() {
        OtherHalfOfNight x = new OtherHalfOfNight();
        Due.row(x, 0, 1, 0, 1, 2, 0, 3, 4, 0, 5);
        due.is("outside", x.house(0, 1, 0, 3), OUTSIDE);
        due.is("what stood ahead came", x.count(0), 2);
        due.is("as it stood", x.told(1, 3), 4);
        due.is("outside at the end", x.house(0, 1, 8, 1), OUTSIDE);
        due.is("outside by one", x.house(0, 1, 6, 1), OUTSIDE);
        due.is("below", x.house(0, 1, -1, 2), OUTSIDE);
        due.is("far below", x.house(0, 1, LEAST, 5), OUTSIDE);
        due.is("far above", x.house(0, 1, MOST, 5), OUTSIDE);
        due.is("above, so that it wraps", x.house(0, 1, MOST - 4, 5), OUTSIDE);
        due.is("nobody came", x.count(0), 2);
        due.is("the last", x.house(0, 1, 3, 1), 1);
        due.is("none, from outside: nothing is asked", x.house(0, 1, 99, 0), 0);
        x.wakes(0, 0, 0);
        x.wakes(0, 0, 0);
        due.is("outside, though it is full", x.house(0, 1, 3, 2), OUTSIDE);
    }

    private static void promise26Refuses() {
        OtherHalfOfNight x = new OtherHalfOfNight();
        x.sheet(0, 1, 40);
        for (int bad : new int[] {-1, 4, LEAST, MOST}) {
            due.is("no such sheet", x.house(bad, 1, 0, 1), BAD);
        }
        for (int bad : new int[] {-2, -1, 3, LEAST, MOST}) {
            due.is("no such sort", x.house(0, bad, 0, 1), BAD);
            due.is("no such sort of a missing one", x.house(1, bad, 0, 1), BAD);
        }
        for (int bad : new int[] {-1, 6, LEAST, MOST}) {
            due.is("no such n", x.house(0, 1, 0, bad), BAD);
        }
        due.is("n ahead of another sort", x.house(0, 0, 0, 6), BAD);
        due.is("another sort", x.house(0, 0, 0, 1), UNLIKE);
        due.is("another sort ahead of outside", x.house(0, 2, -1, 1), UNLIKE);
        due.is("missing", x.house(1, 1, 0, 1), MISSING);
        due.is("missing, none of it", x.house(1, 1, 0, 0), MISSING);
        due.is("missing ahead of outside", x.house(1, 1, -1, 1), MISSING);
        due.is("nobody came", x.count(0), 0);
    }

    private static void promise27() {
        // kinds above each kind, as bits
        int[] above = {1, 1 | 2, 1 | 4, 1 | 2 | 8, 1 | 4 | 16, 1 | 32};
        for (int first = 0; first < 6; first += 3) {
            OtherHalfOfNight x = new OtherHalfOfNight();
            for (int kind = first; kind < first + 3; kind++) {
                x.wakes(kind, 9 - kind, 0);
            }
            for (int one = 0; one < 3; one++) {
                for (int k = 0; k < 6; k++) {
                    boolean is = (above[first + one] >> k & 1) != 0;
                    due.is("kind " + (first + one) + " for " + k, x.taken(one, k), is ? 9 - first - one : UNLIKE);
                }
                due.is("k above", x.taken(one, 6), BAD);
                due.is("k below", x.taken(one, -1), BAD);
            }
            due.is("none such", x.taken(3, 0), MISSING);
            due.is("none below", x.taken(-1, 0), MISSING);
            due.is("k ahead of none such", x.taken(3, 6), BAD);
            due.is("k ahead of none below", x.taken(LEAST, MOST), BAD);
        }
    }
}
