/** Promises 6 to 8: feed, text, force. */
public final class TextsTest {
    private static final Due due = new Due("TextsTest");
    private static final int BAD = OtherHalfOfNight.BAD, FULL = OtherHalfOfNight.FULL;

    public static void main(String[] args) {
        promise6();
        promise7();
        promise7IsFull();
        promise7Faults();
        promise7ReadsNoFurther();
        promise7Open();
        promise7Values();
        promise7Names();
        promise7Deepest();
        promise8();
        due.end();
    }

    private static void promise6() {
        OtherHalfOfNight x = new OtherHalfOfNight();
        due.is("below a byte", x.feed(-1), BAD);
        due.is("above a byte", x.feed(256), BAD);
        due.is("no byte came", x.count(4), 0);
        due.is("the least byte", x.feed(0), 1);
        due.is("the most byte", x.feed(255), 2);
        for (int i = 3; i <= 160; i++) {
            due.is("feed", x.feed(32), i);
        }
        due.is("full", x.feed(32), FULL);
        due.is("bad ahead of full", x.feed(256), BAD);
        due.is("160", x.count(4), 160);
        due.is("a byte that begins none", x.text(), -100);
        due.is("empty", x.count(4), 0);
        due.is("feed anew", x.feed(1), 1);
    }

    private static void promise7() {
        OtherHalfOfNight x = new OtherHalfOfNight();
        due.is("a text", Due.text(x, "yields 2 ; suits 1 ; eases 0 ;"), 1);
        due.is("two texts", x.count(3), 2);
        due.is("the tape is empty", x.count(4), 0);
        due.is("no blanks", Due.text(x, "yields1;suits1;eases0;"), 2);
        due.is("many blanks", Due.text(x, "\n  yields\n(\n1 ) ;suits 1;eases 0; \n"), 3);
        due.is("a fault", Due.text(x, "yields ; suits 1 ; eases 0 ;"), -107);
        due.is("the tape is empty by a fault, too", x.count(4), 0);
        due.is("a fault in the last part", Due.text(x, "yields 8 + 1 ; suits 0 ; eases 5 + ;"), -135);
        due.is("no text by a fault", x.count(3), 4);
        due.is("empty", x.text(), -100);
        due.is("the rule stays", x.count(5), 0);
        due.is("160 bytes", Due.text(x, "yields 3" + " ".repeat(135) + ";suits 1;eases 0;"), 4);
        x.wakes(0, 0, 9);
        x.force(3);
        due.is("nothing of the faults is in what came then", x.told(0, 8), 1);
        due.is("nothing of the faults is in what came then", x.told(0, 9), 63);
        due.is("nothing of the faults is in what came then", x.eased(0), 0);
        x.force(4);
        due.is("the 160 bytes' yields", x.told(0, 8), 3);
        due.is("a fault where a text would be kept", Due.text(x, "yields 8 ; suits 0 ; eases 5 - ;"), -131);
        due.is("a text", Due.text(x, "yields 4 ; suits 0 ; eases 6 ;"), 5);
        x.force(5);
        due.is("yields", x.told(0, 8), 4);
        due.is("suits", x.told(0, 9), 0);
        due.is("eases", x.eased(0), 6);
    }

    private static void promise7IsFull() {
        OtherHalfOfNight x = new OtherHalfOfNight();
        for (int i = 1; i <= 5; i++) {
            due.is("text", Due.text(x, "yields " + i + ";suits 1;eases 0;"), i);
        }
        x.feed('y');
        due.is("full", x.text(), FULL);
        due.is("the tape stays", x.count(4), 1);
        due.is("six texts", x.count(3), 6);
        x.wakes(0, 0, 1);
        for (int i = 1; i <= 5; i++) {
            x.force(i);
            due.is("what text " + i + " yields", x.told(0, 8), i);
        }
    }

    private static void fault(String text, int place) {
        due.is("fault of '" + text + "'", Due.text(new OtherHalfOfNight(), text), -100 - place);
    }

    private static void promise7Faults() {
        fault("", 0);
        fault("  ", 2);
        fault("suits 1 ; eases 0 ;", 0);
        fault("yields", 6);
        fault("yields 1", 8);
        fault("yields 1 ", 9);
        fault("yields 1 suits 1 ; eases 0 ;", 9);
        fault("yields 1 ; yields 1 ; eases 0 ;", 11);
        fault("yields 1 ; suits 1 ; eases 0", 28);
        fault("yields 1 ; suits 1 ; eases 0 ; ;", 31);
        fault("yields 1 ; suits 1 ; eases 0 ; yields", 31);
        fault("yields 1 ; suits 1 ; eases 0 ; # ", 31);
        fault("yields 1 # ; suits 1 ; eases 0 ;", 9);
        fault("yields 1\t; suits 1 ; eases 0 ;", 8);
        fault("Yields 1 ; suits 1 ; eases 0 ;", 0);
        fault("yields tired ; suits 1 ; eases 0 ;", 7);
        fault("yields night9; suits 1 ; eases 0 ;", 12);
        fault("yields nightz ; suits 1 ; eases 0 ;", 7);
        fault("yields vight ; suits 1 ; eases 0 ;", 7);
        fault("yields - tired ; suits 1 ; eases 0 ;", 9);
        fault("yields ( tired ) ; suits 1 ; eases 0 ;", 9);
        fault("yields not tired ; suits 1 ; eases 0 ;", 11);
        fault("yields 1 ; suits 1 ; eases 0 ; tired", 31);
        fault("yields nights ; suits 1 ; eases 0 ;", 7);
        fault("yields nigh ; suits 1 ; eases 0 ;", 7);
        fault("yields notnight ; suits 1 ; eases 0 ;", 7);
        fault("yields 10000 ; suits 1 ; eases 0 ;", 7);
        fault("yields 1 + 00000 ; suits 1 ; eases 0 ;", 11);
        fault("yields 1 2 ; suits 1 ; eases 0 ;", 9);
        fault("yields 1 + ; suits 1 ; eases 0 ;", 11);
        fault("yields + 1 ; suits 1 ; eases 0 ;", 7);
        fault("yields 1 * * 1 ; suits 1 ; eases 0 ;", 11);
        fault("yields ( 1 ; suits 1 ; eases 0 ;", 11);
        fault("yields 1 ) ; suits 1 ; eases 0 ;", 9);
        fault("yields ( ) ; suits 1 ; eases 0 ;", 9);
        fault("yields 1 < 2 < 3 ; suits 1 ; eases 0 ;", 13);
        fault("yields 1 = 2 = 3 ; suits 1 ; eases 0 ;", 13);
        fault("yields 1 < = 3 ; suits 1 ; eases 0 ;", 11);
        fault("yields 1 < not 3 ; suits 1 ; eases 0 ;", 11);
        fault("yields 1 + not 3 ; suits 1 ; eases 0 ;", 11);
        fault("yields - not 3 ; suits 1 ; eases 0 ;", 9);
        fault("yields 1 or or 3 ; suits 1 ; eases 0 ;", 12);
        fault("yields 1 and ; suits 1 ; eases 0 ;", 13);
        fault("yields 1 not 3 ; suits 1 ; eases 0 ;", 9);
        fault("yields suits ; suits 1 ; eases 0 ;", 7);
    }

    private static void stands(String e) {
        due.is("'" + e + "' stands", Due.text(new OtherHalfOfNight(), "yields " + e + ";suits 1;eases 0;"), 1);
    }

    private static void promise7ReadsNoFurther() {
        OtherHalfOfNight x = new OtherHalfOfNight();
        due.is("a long tape", Due.text(x, "yields 1234567 ; suitsandmore"), -107);
        due.is("a short tape behind it", Due.text(x, "yields 123"), -110);
        due.is("a long word", Due.text(x, "yields nightly and more"), -107);
        due.is("a short word behind it", Due.text(x, "yields night"), -112);
    }

    private static void promise7Open() {
        stands("(((((1)))))");
        fault("yields ((((((1))))))", 12);
        stands("-----1");
        fault("yields ------1", 12);
        stands("not not not not not 1");
        fault("yields not not not not not not 1", 27);
        stands("not(-(-1))");
        fault("yields not(-(-(1)))", 14);
        stands("(((((1)))))+(((((1)))))");
        stands("-----1- -----1");
        stands("((((- 1-1-1))))");
        fault("yields ((((--1))))", 12);
        stands("((((not 1 and not 1))))");
        fault("yields ((((not 1 and not -1))))", 25);
        fault("yields (((((", 12);
        fault("yields ((((((", 12);
        stands("not not 1 + 2 * (((1))) < 3 and not (((( 1 ))))");
    }

    private static void value(String e, int value) {
        OtherHalfOfNight x = new OtherHalfOfNight();
        int text = Due.text(x, "yields 1+((" + e + ")=" + value + ");suits 1;eases 0;");
        x.force(1);
        x.wakes(0, 0, 1);
        due.is(e + " is " + value + ", text " + text, x.told(0, 8), 2);
    }

    private static void promise7Values() {
        value("1+2*3", 7);
        value("(1+2)*3", 9);
        value("9-3-2", 4);
        value("9-(3-2)", 8);
        value("-3*-2", 6);
        value("- 3+5", 2);
        value("5 - -3", 8);
        value("2<3", 1);
        value("3<3", 0);
        value("-1<0", 1);
        value("3=3", 1);
        value("3=4", 0);
        value("1+1=2", 1);
        value("7 and 8", 1);
        value("7 and 0", 0);
        value("0 or 8", 1);
        value("0 or 0", 0);
        value("1 or 1 and 0", 1);
        value("(1 or 1) and 0", 0);
        value("not 5", 0);
        value("not 0", 1);
        value("not not 5", 1);
        value("not 1 < 0", 1);
        value("not 0 and 0", 0);
        value("0 and 0 or 1", 1);
        value("0 or 1 or 0", 1);
        value("1 and 1 and 0", 0);
        value("7", 7);
        value("0009", 9);
        value("9999", 9999);
        // as ints wrap: 4399120044 less 2 to the 32nd is 104152748
        value("9999*9999*22<0", 1);
        value("9999*9999*44=9999*9999+9999*417+3164", 1);
        value("-(9999*9999*22)<0", 0);
    }

    private static void promise7Names() {
        OtherHalfOfNight x = new OtherHalfOfNight();
        String[] names = {"trouble", "number", "night", "news", "taste", "hour"};
        int[] values = {21, 6, 43, 12, 0, 17};
        for (int i = 0; i < 5; i++) {
            due.is("text of " + names[i], Due.text(x, "yields " + names[i] + ";suits 1;eases " + names[i] + ";"), i + 1);
        }
        x.wakes(2, 5, 20);
        x.wakes(0, 6, 21);
        x.set(0, 0, 43);
        x.set(4, 1, 12);
        x.set(1, 0, 17);
        for (int i = 0; i < 5; i++) {
            x.force(i + 1);
            due.is(names[i] + " in yields", x.told(1, 8), values[i]);
            due.is(names[i] + " in eases", x.eased(1), values[i]);
        }
        OtherHalfOfNight y = Due.ruledBy("yields hour;suits hour*100+taste*10+news=1734 or number=taste+6;eases hour;");
        y.wakes(0, 7, 5);
        y.set(1, 0, 17);
        y.set(4, 0, 4);
        due.is("hour in yields", y.told(0, 8), 17);
        due.is("hour in eases", y.eased(0), 17);
        due.is("taste in suits", y.told(0, 9), 8 + 2);
    }

    private static void promise7Deepest() {
        String left = "0or 1and 0<1+1*(";
        String text = "yields " + left.repeat(5) + "0or 1and 0<1+1*7" + ")))))" + ";suits 1;eases 0;";
        OtherHalfOfNight x = new OtherHalfOfNight();
        due.is("the deepest text", Due.text(x, text), 1);
        x.force(1);
        x.wakes(0, 0, 1);
        due.is("the deepest value", x.told(0, 8), 1);
    }

    private static void promise8() {
        OtherHalfOfNight x = new OtherHalfOfNight();
        due.is("text 0 is the rule", x.force(0), 0);
        due.is("none such", x.force(1), BAD);
        due.is("none below", x.force(-1), BAD);
        Due.text(x, "yields 2 ; suits 1 ; eases 0 ;");
        Due.text(x, "yields 3 ; suits 1 ; eases 0 ;");
        due.is("to text 2", x.force(2), 0);
        due.is("to text 1", x.force(1), 2);
        due.is("none such", x.force(3), BAD);
        due.is("the rule", x.count(5), 1);
        x.wakes(0, 0, 50);
        due.is("by the rule", x.told(0, 8), 2);
        due.is("back to text 0", x.force(0), 1);
        due.is("by text 0", x.told(0, 8), 51);
    }
}
