/** Promises 23 to 27 at their bounds: each size, the lowest bits, copies that overlap, who is left out. */
public final class HostEdgesTest {
    private static final Due due = new Due("HostEdgesTest");
    private static final int OUTSIDE = -12, UNLIKE = -13, MISSING = -11;
    private static final int LEAST = Integer.MIN_VALUE, MOST = Integer.MAX_VALUE;

    public static void main(String[] args) {
        eachSize();
        rowsAreNew();
        lowestBits();
        cellsStayApart();
        eachCopy();
        copiesBetween();
        copiesOfWholeRows();
        whoIsLeftOut();
        threeByThree();
        eachFrom();
        eachKindTakenForEach();
        due.end();
    }

    /** Sheet 3 is a row of one: the item that is copied there is the trouble by which it is told. */
    private static OtherHalfOfNight reader() {
        OtherHalfOfNight x = Due.ruledBy("yields trouble;suits 1;eases 0;");
        x.wakes(0, 0, 1);
        return x;
    }

    /** Item i, if it is 0 .. 99, else NONE. */
    private static int item(OtherHalfOfNight x, int sheet, int sort, int i) {
        x.sheet(3, sort, 1);
        return x.copy(sheet, i, 3, 0, 1) == 1 ? x.tells(3, 0, 4) : -99;
    }

    private static void items(String when, OtherHalfOfNight x, int sheet, int sort, int... wants) {
        for (int i = 0; i < wants.length; i++) {
            due.is(when + ": item " + i, item(x, sheet, sort, i), wants[i]);
        }
        due.is(when + ": no more", item(x, sheet, sort, wants.length), -99);
    }

    private static void eachSize() {
        for (int sort = 0; sort < 3; sort++) {
            OtherHalfOfNight x = new OtherHalfOfNight();
            for (int size = 0; size <= 40; size++) {
                due.is("sheet of " + size, x.sheet(2, sort, size), 1);
                due.is("the last item", x.cell(2, size - 1, 5), size == 0 ? OUTSIDE : 1);
                due.is("no further", x.cell(2, size, 5), OUTSIDE);
                due.is("all", x.copy(2, 0, 2, 0, size), size);
                due.is("no more", x.copy(2, 0, 2, 0, size + 1), OUTSIDE);
            }
        }
    }

    private static void rowsAreNew() {
        for (int sort = 0; sort < 3; sort++) {
            for (int next = 0; next < 3; next++) {
                OtherHalfOfNight x = reader();
                Due.row(x, 0, sort, 1, 2, 3, 4);
                Due.row(x, 1, sort, 5, 6);
                items("as put", x, 0, sort, 1, 2, 3, 4);
                x.sheet(0, next, 5);
                items("all 0", x, 0, next, 0, 0, 0, 0, 0);
                items("another stays", x, 1, sort, 5, 6);
                x.sheet(1, -1, 2);
                due.is("missing", x.cell(1, 0, 0), MISSING);
                x.sheet(1, next, 2);
                items("all 0 behind missing", x, 1, next, 0, 0);
                Due.row(x, 0, next, 7, 8, 9);
                x.sheet(0, next, 1);
                x.sheet(0, next, 3);
                items("all 0 behind a shorter one", x, 0, next, 0, 0, 0);
            }
        }
        OtherHalfOfNight x = new OtherHalfOfNight();
        for (int sheet = 0; sheet < 4; sheet++) {
            due.is("missing at first", x.cell(sheet, 0, 0), MISSING);
            due.is("missing at first", x.copy(sheet, 0, sheet, 0, 0), MISSING);
            due.is("missing at first", x.house(sheet, 0, 0, 0), MISSING);
            due.is("missing, and missing again", x.sheet(sheet, -1, 0), 1);
            due.is("missing", x.cell(sheet, 0, 0), MISSING);
        }
    }

    private static void lowestBits() {
        OtherHalfOfNight x = reader();
        int[] values = {0, 1, 99, 100, 127, 128, 255, 256, 257, -1, -128, -256, -255, 32767, 32768, 65535, 65536, 65537,
            -65536, -65535, 65536 + 256 + 3, LEAST, LEAST + 1, MOST, MOST - 255};
        int[] bytes = {0, 1, 99, -1, -1, -1, -1, 0, 1, -1, -1, 0, 1, -1, 0, -1, 0, 1, 0, 1, 3, 0, 1, -1, 0};
        int[] shorts = {0, 1, 99, -1, -1, -1, -1, -1, -1, -1, -1, -1, -1, -1, -1, -1, 0, 1, 0, 1, -1, 0, 1, -1, -1};
        int[] ints = {0, 1, 99, -1, -1, -1, -1, -1, -1, -1, -1, -1, -1, -1, -1, -1, -1, -1, -1, -1, -1, -1, -1, -1, -1};
        int[][] wants = {bytes, shorts, ints};
        for (int sort = 0; sort < 3; sort++) {
            x.sheet(0, sort, 3);
            for (int i = 0; i < values.length; i++) {
                due.is("cell", x.cell(0, 1, values[i]), 1);
                due.is(values[i] + " in sort " + sort, item(x, 0, sort, 1), wants[sort][i]);
            }
            items("others stay 0", x, 0, sort, 0, wants[sort][24], 0);
        }
        for (int sort = 0; sort < 3; sort++) {
            OtherHalfOfNight y = new OtherHalfOfNight();
            Due.row(y, 0, sort, 256 + 5, 512 + 9, 99 - 256);
            due.is("who comes by the lowest bits", y.house(0, sort, 0, 1), sort == 0 ? 1 : 0);
            Due.row(y, 0, sort, 65536 + 5, 65536 * 7 + 9, 99 - 65536);
            due.is("who comes by the lowest bits", y.house(0, sort, 0, 1), sort < 2 ? 1 : 0);
            Due.row(y, 0, sort, 5, 9, 99);
            due.is("who comes", y.house(0, sort, 0, 1), 1);
        }
    }

    private static void cellsStayApart() {
        for (int sort = 0; sort < 3; sort++) {
            OtherHalfOfNight x = reader();
            x.sheet(0, sort, 4);
            x.sheet(1, sort, 4);
            int[] wants = new int[4];
            for (int i : new int[] {3, 0, 2, 1, 0}) {
                wants[i] += 10 + i;
                x.cell(0, i, wants[i]);
                items("cell " + i, x, 0, sort, wants);
            }
            for (int i : new int[] {-1, 4, LEAST, MOST}) {
                due.is("outside", x.cell(0, i, 77), OUTSIDE);
            }
            items("as they were", x, 0, sort, wants);
            items("another's", x, 1, sort, 0, 0, 0, 0);
        }
    }

    private static void eachCopy() {
        for (int i = 0; i <= 5; i++) {
            for (int j = 0; j <= 5; j++) {
                for (int n = 0; n <= 5; n++) {
                    OtherHalfOfNight x = reader();
                    int sort = (i + j + n) % 3;
                    Due.row(x, 0, sort, 1, 2, 3, 4, 5);
                    int[] wants = {1, 2, 3, 4, 5};
                    boolean inside = i + n <= 5 && j + n <= 5;
                    for (int k = 0; inside && k < n; k++) {
                        wants[j + k] = i + k + 1;
                    }
                    String call = "copy onto itself " + i + ", " + j + ", " + n;
                    due.is(call, x.copy(0, i, 0, j, n), inside ? n : OUTSIDE);
                    items(call, x, 0, sort, wants);
                }
            }
        }
    }

    private static void copiesBetween() {
        for (int sort = 0; sort < 3; sort++) {
            for (int n = 0; n <= 3; n++) {
                for (int i = 0; i + n <= 3; i++) {
                    for (int j = 0; j + n <= 4; j++) {
                        OtherHalfOfNight x = reader();
                        Due.row(x, 1, sort, 11, 12, 13);
                        Due.row(x, 2, sort, 21, 22, 23, 24);
                        int[] wants = {21, 22, 23, 24};
                        for (int k = 0; k < n; k++) {
                            wants[j + k] = 11 + i + k;
                        }
                        String call = "copy " + i + ", " + j + ", " + n;
                        due.is(call, x.copy(1, i, 2, j, n), n);
                        items(call, x, 2, sort, wants);
                        items(call + ": from", x, 1, sort, 11, 12, 13);
                    }
                }
            }
        }
        OtherHalfOfNight x = reader();
        Due.row(x, 0, 0, 1, 2);
        Due.row(x, 1, 1, 3, 4);
        Due.row(x, 2, 2, 5, 6);
        for (int sheet = 0; sheet < 3; sheet++) {
            for (int other = 0; other < 3; other++) {
                if (sheet != other) {
                    due.is("unlike", x.copy(sheet, 0, other, 0, 2), UNLIKE);
                    due.is("unlike, none", x.copy(sheet, 0, other, 0, 0), UNLIKE);
                }
            }
        }
        items("bytes stay", x, 0, 0, 1, 2);
        items("shorts stay", x, 1, 1, 3, 4);
        items("ints stay", x, 2, 2, 5, 6);
    }

    private static void copiesOfWholeRows() {
        for (int sort = 0; sort < 3; sort++) {
            OtherHalfOfNight x = reader();
            x.sheet(0, sort, 40);
            x.sheet(1, sort, 40);
            for (int i = 0; i < 40; i++) {
                x.cell(0, i, 40 + i);
            }
            due.is("40", x.copy(0, 0, 1, 0, 40), 40);
            due.is("41", x.copy(0, 0, 1, 0, 41), OUTSIDE);
            due.is("40 from 1 on", x.copy(0, 1, 1, 0, 40), OUTSIDE);
            due.is("40 to 1", x.copy(0, 0, 1, 1, 40), OUTSIDE);
            for (int i = 0; i < 40; i++) {
                due.is("item " + i, item(x, 1, sort, i), 40 + i);
            }
        }
        OtherHalfOfNight x = reader();
        Due.row(x, 0, 2, LEAST, MOST, 7);
        x.sheet(1, 2, 3);
        x.copy(0, 0, 1, 0, 3);
        items("ints as they were", x, 1, 2, -1, -1, 7);
    }

    private static void whoIsLeftOut() {
        int[][] threes = {{0, 0, 0}, {5, 9, 99}, {-1, 0, 0}, {6, 0, 0}, {0, -1, 0}, {0, 10, 0}, {0, 0, -1}, {0, 0, 100},
            {LEAST, 0, 0}, {0, MOST, 0}, {0, 0, MOST}};
        for (int sort = 0; sort < 3; sort++) {
            for (int i = 0; i < threes.length; i++) {
                OtherHalfOfNight x = new OtherHalfOfNight();
                int[] t = threes[i];
                Due.row(x, 1, sort, 3, 3, 3, t[0], t[1], t[2], 4, 4, 4);
                boolean lowest = sort < 2 && t[0] == LEAST;
                int comes = i < 2 || lowest ? 1 : 0;
                due.is("who came by three " + i + ", sort " + sort, x.house(1, sort, 0, 3), 2 + comes);
                due.is("so many", x.count(0), 2 + comes);
                due.is("the first", x.told(0, 7), 3);
                due.is("the last", x.told(1 + comes, 7), 4);
                due.is("the row stays", x.house(1, sort, 0, 1), 1);
            }
        }
    }

    private static void threeByThree() {
        for (int sort = 0; sort < 3; sort++) {
            for (int n = 0; n <= 5; n++) {
                OtherHalfOfNight x = new OtherHalfOfNight();
                x.sheet(0, sort, 15);
                for (int one = 0; one < 5; one++) {
                    x.cell(0, 3 * one, one + 1);
                    x.cell(0, 3 * one + 1, 9 - one);
                    x.cell(0, 3 * one + 2, 50 + one);
                }
                due.is(n + " of them", x.house(0, sort, 0, n), n);
                due.is("so many", x.count(0), n);
                for (int one = 0; one < n; one++) {
                    due.is("kind", x.told(one, 7), one + 1);
                    due.is("number", x.told(one, 2), 9 - one);
                    due.is("trouble", x.told(one, 3), 50 + one);
                    due.is("news", x.told(one, 4), 0);
                }
            }
        }
    }

    private static void eachFrom() {
        for (int size = 0; size <= 10; size++) {
            for (int from = -4; from <= 11; from++) {
                for (int n = 0; n <= 3; n++) {
                    OtherHalfOfNight x = new OtherHalfOfNight();
                    x.sheet(2, 1, size);
                    int inside = from < 0 ? 0 : Math.max(0, (size - from) / 3);
                    String call = "house of " + size + " from " + from + ", " + n;
                    due.is(call, x.house(2, 1, from, n), n <= inside ? n : OUTSIDE);
                    due.is(call + ": came", x.count(0), Math.min(n, inside));
                }
            }
        }
        for (int from : new int[] {LEAST, LEAST + 1, MOST, MOST - 1, MOST - 2, MOST - 3, MOST - 14, 40, 41}) {
            OtherHalfOfNight x = new OtherHalfOfNight();
            x.sheet(2, 1, 40);
            due.is("none from " + from, x.house(2, 1, from, 0), 0);
            due.is("house from " + from, x.house(2, 1, from, 5), OUTSIDE);
            due.is("nobody came", x.count(0), 0);
        }
        OtherHalfOfNight x = new OtherHalfOfNight();
        x.sheet(2, 1, 40);
        due.is("the last five", x.house(2, 1, 25, 5), 5);
        OtherHalfOfNight y = new OtherHalfOfNight();
        y.sheet(2, 1, 40);
        due.is("outside by one", y.house(2, 1, 26, 5), OUTSIDE);
        due.is("four came", y.count(0), 4);
    }

    private static void eachKindTakenForEach() {
        int[][] under = {{1, 0, 0, 0, 0, 0}, {1, 1, 0, 0, 0, 0}, {1, 0, 1, 0, 0, 0}, {1, 1, 0, 1, 0, 0}, {1, 0, 1, 0, 1, 0},
            {1, 0, 0, 0, 0, 1}};
        for (int kind = 0; kind < 6; kind++) {
            for (int k = 0; k < 6; k++) {
                for (int number : new int[] {0, 9}) {
                    OtherHalfOfNight x = new OtherHalfOfNight();
                    x.wakes(kind, number, 5);
                    due.is("kind " + kind + " taken for " + k, x.taken(0, k), under[kind][k] == 1 ? number : UNLIKE);
                }
            }
        }
    }
}
