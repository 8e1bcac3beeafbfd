import java.util.ArrayList;
import java.util.List;

/** An E: how many of ( , not, - may be open, what it is (32 bits, wrapping), and what its NAMES are. */
public final class ExpressionsTest {
    private static final Due due = new Due("ExpressionsTest");
    private static final int LEAST = Integer.MIN_VALUE, MOST = Integer.MAX_VALUE;

    public static void main(String[] args) {
        fiveOpen();
        whatEnds();
        wideIsNotDeep();
        truths();
        comparisons();
        sumsWrap();
        productsWrap();
        orderOfParts();
        deepest();
        names();
        tasteInSuitsAlone();
        nightsBehindTheLast();
        boundOfATextsYieldsAndEases();
        due.end();
    }

    private static String text(String e) {
        return "yields " + e + ";suits 1;eases 0;";
    }

    private static void stands(String e) {
        due.is("'" + e + "'", Due.text(new OtherHalfOfNight(), text(e)), 1);
        due.is("in eases: '" + e + "'", Due.text(new OtherHalfOfNight(), "yields 1;suits 1;eases " + e + ";"), 1);
    }

    /** The place is the E's. */
    private static void fault(String e, int place) {
        due.is("'" + e + "'", Due.text(new OtherHalfOfNight(), text(e)), -107 - place);
        String inSuits = "yields 1;suits " + e + ";eases 0;";
        due.is("in suits: '" + e + "'", Due.text(new OtherHalfOfNight(), inSuits), -115 - place);
    }

    /** Each row of so many that can stand: a not can't behind a -. */
    private static List<String> rows(int many) {
        List<String> rows = new ArrayList<>(List.of(""));
        for (int i = 0; i < many; i++) {
            List<String> longer = new ArrayList<>();
            for (String row : rows) {
                longer.add(row + "(");
                longer.add(row + "-");
                if (!row.endsWith("-")) {
                    longer.add(row + "n");
                }
            }
            rows = longer;
        }
        return rows;
    }

    private static String whole(String row) {
        StringBuilder ends = new StringBuilder();
        for (char c : row.toCharArray()) {
            ends.append(c == '(' ? ")" : "");
        }
        return row.replace("n", "not ") + "1" + ends;
    }

    private static void fiveOpen() {
        for (int many = 0; many <= 5; many++) {
            for (String row : rows(many)) {
                stands(whole(row));
            }
        }
        for (String row : rows(6)) {
            fault(whole(row), row.substring(0, 5).replace("n", "not ").length());
        }
        for (String row : rows(5)) {
            // the text ends ahead of what would be too deep
            String early = "yields " + row.replace("n", "not ");
            due.is("'" + early + "'", Due.text(new OtherHalfOfNight(), early), -100 - early.length());
        }
        fault("(((((((1)))))))", 5);
        fault("((((((((((((1", 5);
        fault("((((((?", 5);
        fault("(((((?", 5);
        fault("((((( ?", 6);
        fault("(((((not 1)))))", 5);
        fault("(((((-1)))))", 5);
        fault("(((((1+-1)))))", 7);
        fault("(((((1 and not 1)))))", 11);
        fault("(((((1<(1))))))", 7);
    }

    private static void whatEnds() {
        // a ( till its )
        stands("(((((1)))))+(((((1)))))");
        stands("((((1)+(1)+(1))))");
        stands("((((1)*((1)))))");
        fault("((((1)*(((1))))))", 9);
        // a - till its ONE ends
        stands("-(1)+(((((1)))))");
        stands("-1-(((((1)))))");
        stands("-1*(((((1)))))");
        stands("-1<(((((1)))))");
        stands("-----1-----1");
        stands("-----1------1");
        fault("-----1-------1", 12);
        stands("-----1 - -----1");
        fault("-----1 - ------1", 14);
        stands("-((((1))))");
        fault("-(((((1)))))", 5);
        // a not till its NOT ends: what is compared belongs to it, what stands behind and, or doesn't
        stands("not 1 and (((((1)))))");
        stands("not 1 or (((((1)))))");
        fault("not 1 + (((((1)))))", 12);
        fault("not 1 * (((((1)))))", 12);
        fault("not 1 < (((((1)))))", 12);
        fault("not 1 = (((((1)))))", 12);
        stands("not 1 < ((((1))))");
        stands("not not not not not 1 and not not not not not 1");
        stands("not not not not not 1 < 1 or not not not not not 1 = 1");
        fault("not not not not not 1 < -1", 24);
        fault("not not not not not 1 < (1)", 24);
        stands("((((not 1))))and((((not 1))))");
        stands("((((not 1 and not 1 or not 1))))");
        fault("((((not 1 < -1))))", 12);
        // a - between is none of these
        stands("(((((1-1)))))");
        stands("(((((1-1-1-1-1-1-1)))))");
        stands("not not not not not 1-1");
        stands("-----1-1");
    }

    private static void wideIsNotDeep() {
        stands("1" + " or 1".repeat(27));
        stands("1" + "and 1".repeat(25));
        stands("-1" + "*-1".repeat(40));
        stands("(1)" + "+(1)".repeat(32));
        stands("not 1" + " or not 1".repeat(13));
        fault("(1)" + "+(1)".repeat(20) + "+", 84);
    }

    /** A SUM of that value, by NUMBERS of four digits. */
    private static String sum(int v) {
        long size = Math.abs((long) v);
        String sign = v < 0 ? "-" : "+";
        return "0" + sign + size / 100000000 + "*100*100*100*100" + sign + size / 10000 % 10000 + "*100*100"
                + sign + size % 10000;
    }

    private static String number(int v) {
        return "(" + sum(v) + ")";
    }

    private static void value(String e, int value) {
        OtherHalfOfNight x = Due.ruledBy(text("1+(" + e + "=" + sum(value) + ")"));
        x.wakes(0, 0, 1);
        due.is(e + " is " + value, x.told(0, 8), 2);
        OtherHalfOfNight y = Due.ruledBy(text("1+(" + e + "=" + sum(value + 1) + ")"));
        y.wakes(0, 0, 1);
        due.is(e + " isn't one more than " + value, y.told(0, 8), 1);
    }

    private static void truths() {
        String[] values = {"0", "1", "(0-1)", "7", "9999", number(LEAST), number(MOST), "night", "(4-4)"};
        boolean[] yes = {false, true, true, true, true, true, true, false, false};
        for (int a = 0; a < values.length; a++) {
            value("(not " + values[a] + ")", yes[a] ? 0 : 1);
            value("(not not " + values[a] + ")", yes[a] ? 1 : 0);
            OtherHalfOfNight x = Due.ruledBy("yields 1;suits " + values[a] + ";eases 0;");
            x.wakes(0, 0, 1);
            due.is("suits " + values[a], x.told(0, 9), yes[a] ? 63 : 0);
        }
        int[] few = {0, 1, 2, 7};
        for (int a : few) {
            for (int b : few) {
                value("(" + values[a] + " or " + values[b] + ")", yes[a] || yes[b] ? 1 : 0);
                value("(" + values[a] + " and " + values[b] + ")", yes[a] && yes[b] ? 1 : 0);
                for (int c : few) {
                    String three = values[a] + " or " + values[b] + " and " + values[c];
                    value("(" + three + ")", yes[a] || yes[b] && yes[c] ? 1 : 0);
                    String ands = values[a] + " and " + values[b] + " or " + values[c];
                    value("(" + ands + ")", yes[a] && yes[b] || yes[c] ? 1 : 0);
                }
            }
        }
        // without or, and, not it is as it stands
        value("7", 7);
        value("(7)", 7);
        value("((0-7))", -7);
    }

    private static void comparisons() {
        int[] values = {LEAST, -1, 0, 1, MOST};
        for (int a : values) {
            for (int b : values) {
                value("(" + number(a) + "<" + number(b) + ")", a < b ? 1 : 0);
                value("(" + number(a) + "=" + number(b) + ")", a == b ? 1 : 0);
            }
        }
        value("(not 1<0)", 1);
        value("(not 0=0)", 0);
        value("(1+1<1+2)", 1);
        value("(2*3=7-1)", 1);
        value("(1<2 and 3<4)", 1);
        value("((1<2)<2)", 1);
        value("((5=5)+(5=5))", 2);
    }

    private static void sumsWrap() {
        value(number(MOST) + "+1", LEAST);
        value(number(MOST) + "+" + number(MOST), -2);
        value(number(LEAST) + "-1", MOST);
        value(number(LEAST) + "+" + number(LEAST), 0);
        value("0-" + number(LEAST), LEAST);
        value("-" + number(LEAST), LEAST);
        value("-" + number(MOST), -MOST);
        value("--" + number(LEAST), LEAST);
        value("-0", 0);
        value("0-9999", -9999);
    }

    private static void productsWrap() {
        value("256*256*256*128", LEAST);
        value("256*256*256*256", 0);
        value("256*256*256*255", -16777216);
        value("-256*256*256*128", LEAST);
        // 2199560022 less 2 to the 32nd
        value("9999*9999*22", -2095407274);
        value("9999*9999*9999", (int) (9999L * 9999 * 9999));
        value("9999*9999*9999*9999", (int) (9999L * 9999 * 9999 * 9999));
        value(number(MOST) + "*" + number(MOST), 1);
        value(number(LEAST) + "*" + number(LEAST), 0);
        value(number(LEAST) + "*-1", LEAST);
        OtherHalfOfNight x = Due.ruledBy("yields 256*256*256*256+7;suits 256*256*256*256;eases 256*256*256*256+3;");
        x.wakes(0, 0, 1);
        due.is("the lowest bits alone: yields", x.told(0, 8), 7);
        due.is("the lowest bits alone: suits", x.told(0, 9), 0);
        due.is("the lowest bits alone: eases", x.eased(0), 3);
    }

    private static void orderOfParts() {
        value("10-3-2", 5);
        value("10-3+2", 9);
        value("2+3*4", 14);
        value("2*3+4", 10);
        value("2*3*4-5*2", 14);
        value("-2*3", -6);
        value("2*-3", -6);
        value("-2-3", -5);
        value("2--3", 5);
        value("-(2-3)", 1);
        value("--2", 2);
        value("---2", -2);
        value("(1+2)*(3-5)", -6);
    }

    private static void deepest() {
        // each part waits on its left side, five brackets deep
        String left = "0or 1and 0<1+1*(";
        OtherHalfOfNight x = Due.ruledBy(text(left.repeat(5) + "0or 1and 0<1+1*7" + ")))))"));
        x.wakes(0, 0, 1);
        due.is("the deepest", x.told(0, 8), 1);
        OtherHalfOfNight y = Due.ruledBy(text("9-(8-(7-(6-(5-(4-3*1-2)))))"));
        y.wakes(0, 0, 1);
        due.is("9-(8-(7-(6-(5-(4-3*1-2)))))", y.told(0, 8), 9 - (8 - (7 - (6 - (5 - (4 - 3 - 2))))));
        OtherHalfOfNight z = Due.ruledBy(text("1+2*(1+2*(1+2*(1+2*(1+2*(1+2*1)))))-90"));
        z.wakes(0, 0, 1);
        due.is("1+2*(..)", z.told(0, 8), 127 - 90);
    }

    private static void names() {
        OtherHalfOfNight x = new OtherHalfOfNight();
        Due.text(x, "yields trouble;suits trouble;eases trouble;");
        Due.text(x, "yields 99*(number=0)+number*9;suits number;eases number;");
        Due.text(x, "yields 1+(night=999);suits night;eases 2*(night=999);");
        Due.text(x, "yields news;suits news;eases news;");
        Due.text(x, "yields hour;suits hour;eases hour;");
        x.wakes(5, 3, 3);
        x.wakes(0, 0, 0);
        int[] whats = {3, 2, 0, 4, 1};
        int[] mosts = {99, 9, 999, 99, 23};
        int[][] yields = {{0, 99}, {99, 81}, {1, 2}, {0, 99}, {0, 23}};
        int[][] eases = {{0, 99}, {0, 9}, {0, 2}, {0, 99}, {0, 23}};
        for (int text = 1; text <= 5; text++) {
            x.force(text);
            int what = whats[text - 1];
            int was = x.set(what, 1, 0);
            x.set(3, 1, what == 3 ? 0 : 1);
            due.is("text " + text + " yields of 0", x.told(1, 8), yields[text - 1][0]);
            due.is("text " + text + " suits of 0", x.told(1, 9), 0);
            due.is("text " + text + " eases of 0", x.eased(1), eases[text - 1][0]);
            x.set(what, 1, mosts[text - 1]);
            due.is("text " + text + " yields of the most", x.told(1, 8), yields[text - 1][1]);
            due.is("text " + text + " suits of the most", x.told(1, 9), 63);
            due.is("text " + text + " eases of the most", x.eased(1), eases[text - 1][1]);
            x.set(what, 1, was);
        }
    }

    private static void tasteInSuitsAlone() {
        OtherHalfOfNight x = Due.ruledBy("yields 7+taste;suits taste;eases 7+taste;");
        x.wakes(0, 0, 9);
        for (int cup = 0; cup < 6; cup++) {
            x.set(6, cup, 9);
        }
        due.is("taste in yields is 0", x.told(0, 8), 7);
        due.is("taste in eases is 0", x.eased(0), 7);
        due.is("taste 9", x.told(0, 9), 63);
        x.set(6, 0, 0);
        x.set(6, 5, 0);
        due.is("of each cup its own", x.told(0, 9), 30);
        OtherHalfOfNight y = Due.ruledBy("yields 1+(taste=0);suits taste=9 or taste=0;eases taste=0;");
        y.wakes(0, 0, 9);
        y.set(6, 3, 9);
        due.is("taste 0 and 9", y.told(0, 9), 9);
        due.is("taste in yields is just 0", y.told(0, 8), 2);
        due.is("taste in eases is just 0", y.eased(0), 1);
        due.is("in a night, too", y.run(0, 0, 1, 0), 8);
    }

    private static void nightsBehindTheLast() {
        OtherHalfOfNight x = Due.ruledBy("yields 1+(night=999)*2+(night=1000)*3+(night=1038)*5;suits 1;eases night=1058;");
        x.wakes(0, 0, 1);
        x.set(0, 0, 999);
        due.is("night 999", x.run(0, 0, 1, 1), 3);
        due.is("night 1000", x.run(0, 0, 2, 1), 7);
        due.is("night 1038", x.run(0, 0, 40, 1), 40 + 2 + 3 + 5);
        due.is("night 1038 is the 40th", x.run(0, 0, 39, 1), 39 + 2 + 3);
        due.is("night 1058", x.sleeps(0), 60);
        due.is("told", x.film(0, 0, 2), 7);
        due.is("drawn", x.drawn(1, 0), 0);
        due.is("truly", x.night(), OtherHalfOfNight.STATE);
    }

    private static void boundOfATextsYieldsAndEases() {
        int[] values = {LEAST, -100, -1, 0, 1, 98, 99, 100, 9999, MOST};
        int[] bounds = {0, 0, 0, 0, 1, 98, 99, 99, 99, 99};
        for (int i = 0; i < values.length; i++) {
            String e = number(values[i]);
            OtherHalfOfNight x = Due.ruledBy("yields " + e + ";suits 1;eases " + e + ";");
            x.wakes(0, 0, 50);
            x.wakes(1, 0, 50);
            due.is("yields " + e, x.told(0, 8), bounds[i]);
            due.is("eases " + e, x.eased(0), bounds[i]);
            due.is("half of eases " + e, x.eased(1), bounds[i] / 2);
        }
    }
}
