import java.util.ArrayList;
import java.util.List;

/** THE TAPE and what is read from it: each byte, each WORD, NUMBERS by their size, where a text ends too early. */
public final class TokensTest {
    private static final Due due = new Due("TokensTest");
    private static final String[] KEYS = {"yields", "suits", "eases", "or", "and", "not"};
    private static final String[] NAMES = {"trouble", "number", "night", "news", "taste", "hour"};
    private static final String WHOLE = "yields 1;suits 1;eases 0;";

    public static void main(String[] args) {
        eachByteAlone();
        eachByteBehindANumber();
        eachByteBehindAName();
        eachByteBehindAText();
        eachByteInAWord();
        numbersBySize();
        words();
        tokensStandCloseBy();
        eachTextEndsTooEarly();
        eachTokenThatCantStandThere();
        theFirstOfTwoFaults();
        tapesBySize();
        aTextIsNew();
        due.end();
    }

    private static void reads(String text, int want) {
        due.is("'" + text + "'", Due.text(new OtherHalfOfNight(), text), want);
    }

    private static void stands(String e) {
        reads("yields " + e + ";suits 1;eases 0;", 1);
    }

    private static void fault(String text, int place) {
        reads(text, -100 - place);
    }

    private static boolean letter(int b) {
        return b >= 97 && b <= 122;
    }

    private static boolean digit(int b) {
        return b >= 48 && b <= 57;
    }

    private static boolean blank(int b) {
        return b == 32 || b == 10;
    }

    private static void eachByteAlone() {
        for (int b = 0; b < 256; b++) {
            reads("" + (char) b, blank(b) ? -101 : -100);
        }
    }

    private static void eachByteBehindANumber() {
        for (int b = 0; b < 256; b++) {
            String text = "yields 1" + (char) b + "1;suits 1;eases 0;";
            if (digit(b) || "+-*<=".indexOf(b) >= 0) {
                reads(text, 1);
            } else {
                fault(text, blank(b) || b == ';' ? 9 : 8);
            }
        }
    }

    private static void eachByteBehindAName() {
        for (int b = 0; b < 256; b++) {
            String text = "yields night" + (char) b + ";suits 1;eases 0;";
            if (blank(b)) {
                reads(text, 1);
            } else {
                fault(text, letter(b) ? 7 : "+-*<=;".indexOf(b) >= 0 ? 13 : 12);
            }
        }
    }

    private static void eachByteBehindAText() {
        for (int b = 0; b < 256; b++) {
            reads(WHOLE + (char) b, blank(b) ? 1 : -125);
            reads((char) b + WHOLE, blank(b) ? 1 : -100);
        }
    }

    private static void eachByteInAWord() {
        for (int b = 0; b < 256; b++) {
            String text = "yields ni" + (char) b + "ht;suits 1;eases 0;";
            reads(text, b == 'g' ? 1 : -107);
        }
    }

    private static void numbersBySize() {
        for (String number : new String[] {"0", "9", "00", "10", "99", "000", "999", "0000", "0001", "1000", "9999"}) {
            stands(number);
        }
        for (String number : new String[] {"00000", "00001", "10000", "99999", "0000000", "2147483648",
            "99999999999999999999999999999999"}) {
            fault("yields " + number + ";suits 1;eases 0;", 7);
            fault("yields 1+" + number + ";suits 1;eases 0;", 9);
            fault("yields " + number, 7);
            fault(number, 0);
        }
        fault("yields 9999 9;suits 1;eases 0;", 12);
        fault("yields 9999 99999;suits 1;eases 0;", 12);
        OtherHalfOfNight x = Due.ruledBy("yields 0099;suits 1;eases 0042;");
        x.wakes(0, 0, 9);
        due.is("0099 is 99", x.told(0, 8), 99);
        due.is("0042 is 42", x.eased(0), 42);
        OtherHalfOfNight y = Due.ruledBy("yields 9999-9990;suits 1000=0999+1;eases 0;");
        y.wakes(0, 0, 9);
        due.is("four digits are all of them", y.told(0, 8), 9);
        due.is("1000 is 1000", y.told(0, 9), 63);
    }

    private static List<String> beside(String word) {
        List<String> words = new ArrayList<>();
        words.add(word.substring(1));
        words.add(word.substring(0, word.length() - 1));
        words.add("a" + word);
        words.add("z" + word);
        words.add(word + "a");
        words.add(word + "z");
        words.add(word + "s");
        words.add(word + word);
        for (int i = 0; i < word.length(); i++) {
            words.add(word.substring(0, i) + (word.charAt(i) == 'q' ? 'r' : 'q') + word.substring(i + 1));
        }
        return words;
    }

    private static void words() {
        for (String name : NAMES) {
            stands(name);
            stands("(" + name + ")");
            reads("yields 1;suits " + name + ";eases " + name + ";", 1);
            fault(name, 0);
            for (String word : beside(name)) {
                fault("yields " + word + ";suits 1;eases 0;", 7);
            }
        }
        for (String key : KEYS) {
            for (String word : beside(key)) {
                fault("yields " + word + " 1;suits 1;eases 0;", 7);
                fault("yields 1 " + word + " 1;suits 1;eases 0;", 9);
                fault(word + " 1;suits 1;eases 0;", 0);
            }
        }
        // as long as can be: a word that begins with another
        fault("yields nightor 1;suits 1;eases 0;", 7);
        fault("yields ornight;suits 1;eases 0;", 7);
        fault("yields notnot 1;suits 1;eases 0;", 7);
        fault("yieldsnight;suits 1;eases 0;", 0);
        fault("a;suits 1;eases 0;", 0);
        fault("yields " + "a".repeat(153), 7);
    }

    private static void tokensStandCloseBy() {
        stands("1or 1");
        stands("1and 1");
        stands("not(1)");
        stands("1or(1)and not(1)");
        stands("0<1or 1=0and-1");
        stands("(night)or(news)");
        stands("1--1");
        stands("not-1");
        fault("yields 1or1 2;suits 1;eases 0;", 12);
        reads("yields1or1;suits1;eases0;", 1);
        reads("yields(1);suits(1);eases(0);", 1);
        reads("yields-1;suits-1;eases-1;", 1);
        reads("\n\nyields\n1\n;\nsuits\n1\n;\neases\n0\n;\n\n", 1);
        reads("yields 1 ; suits 1 ; eases 0 ;  \n", 1);
    }

    private static void eachTextEndsTooEarly() {
        String text = "yields not ( 1 < - 2 ) ; suits 1 or 0 and 3 ; eases 4 + 5 * 6 ;";
        for (int size = 0; size < text.length(); size++) {
            char last = size == 0 ? ' ' : text.charAt(size - 1);
            // what is left of a word is a word that is none
            if (!letter(last) || !letter(text.charAt(size))) {
                fault(text.substring(0, size), size);
            }
        }
        reads(text, 1);
        fault("yield", 0);
        fault("yields 1 o", 9);
        fault("yields 1 an", 9);
        fault("yields n", 7);
        fault("   ", 3);
        fault("yields 1;   ", 12);
        fault("yields 1;\n\n", 11);
    }

    /** Behind what there is none of these can stand: the fault is the token's place. */
    private static void cant(String ahead, String... tokens) {
        for (String token : tokens) {
            fault(ahead + " " + token, ahead.length() + 1);
            fault(ahead + " " + token + " 1 ; suits 1 ; eases 0 ;", ahead.length() + 1);
        }
    }

    private static void eachTokenThatCantStandThere() {
        String[] none = {"suits", "eases", "or", "and", "night", "5", "(", ")", ";", "+", "-", "*", "<", "=", "not", "?", "x"};
        cant("", none);
        String[] noBeginning = {"yields", "suits", "eases", "or", "and", ")", ";", "+", "*", "<", "=", "?", "x", "12345"};
        for (String ahead : new String[] {"yields", "yields (", "yields not", "yields ( not", "yields 1 or", "yields 1 and",
            "yields 1 or not", "yields 1 and (", "yields ( 1 ) or", "yields not 1 and"}) {
            cant(ahead, noBeginning);
        }
        for (String ahead : new String[] {"yields -", "yields 1 +", "yields 1 -", "yields 1 *", "yields 1 <", "yields 1 =",
            "yields - -", "yields ( 1 <", "yields 1 + 1 *", "yields 1 or 1 =", "yields not 1 <"}) {
            cant(ahead, noBeginning);
            cant(ahead, "not");
        }
        String[] noEnding = {"yields", "suits", "eases", "night", "5", "(", "not", "?", "x", "12345"};
        for (String ahead : new String[] {"yields 1", "yields night", "yields ( 1 )", "yields - 1", "yields not 1",
            "yields 1 < 1", "yields 1 or 1", "yields ( 1", "yields ( 1 = 1"}) {
            cant(ahead, noEnding);
        }
        for (String ahead : new String[] {"yields 1", "yields ( 1 )", "yields 1 and ( 1 )"}) {
            cant(ahead, ")");
        }
        for (String ahead : new String[] {"yields ( 1", "yields ( ( 1 )", "yields 1 and ( 1"}) {
            cant(ahead, ";");
        }
        for (String ahead : new String[] {"yields 1 < 1", "yields 1 = 1", "yields ( 1 < 1", "yields not 1 = 1"}) {
            cant(ahead, "<", "=");
        }
        for (String key : new String[] {"yields", "suits", "eases", "or", "and", "not", "night", "5", "(", ")", ";", "?"}) {
            fault("yields 1 ; suits 1 ; eases 0 ; " + key, 31);
            if (!key.equals("suits")) {
                fault("yields 1 ; " + key + " 1 ; eases 0 ;", 11);
            }
            if (!key.equals("eases")) {
                fault("yields 1 ; suits 1 ; " + key + " 0 ;", 21);
            }
        }
    }

    private static void theFirstOfTwoFaults() {
        fault("yields ? 12345", 7);
        fault("yields 12345 ?", 7);
        fault("yields 1 1 ? 12345 dream", 9);
        fault("yields dream ) 12345", 7);
        fault("eases ?", 0);
        fault("yields ( 1 ; ?", 11);
    }

    private static void tapesBySize() {
        for (int size : new int[] {25, 26, 159, 160}) {
            reads(WHOLE + " ".repeat(size - 25), 1);
            reads(" ".repeat(size - 25) + WHOLE, 1);
            fault(" ".repeat(size), size);
            fault(" ".repeat(size - 1) + "?", size - 1);
        }
        String most = "yields 1" + "+1".repeat(67) + ";suits 1;eases 0; ";
        due.is("160 bytes", most.length(), 160);
        OtherHalfOfNight x = new OtherHalfOfNight();
        due.is("160 bytes", Due.text(x, most), 1);
        x.force(1);
        x.wakes(0, 0, 9);
        due.is("all of it counts", x.told(0, 8), 68);
        // one more is none of it
        OtherHalfOfNight y = new OtherHalfOfNight();
        due.is("161 bytes", Due.text(y, "yields 1" + "+1".repeat(68) + ";suits 1;eases 0;"), -260);
        due.is("empty behind it", y.text(), -100);
    }

    private static void aTextIsNew() {
        OtherHalfOfNight x = new OtherHalfOfNight();
        for (int text = 1; text <= 5; text++) {
            due.is("empty", x.count(4), 0);
            due.is("a fault", Due.text(x, "yields 77;suits 0;eases 88"), -126);
            due.is("empty by a fault, too", x.count(4), 0);
            due.is("no more texts", x.count(3), text);
            due.is("nothing", x.text(), -100);
            due.is("the number", Due.text(x, "yields " + text + "1;suits taste=" + text + ";eases " + text + ";"), text);
            due.is("more texts", x.count(3), text + 1);
            due.is("the rule stays", x.count(5), 0);
        }
        x.wakes(0, 0, 9);
        for (int text = 5; text >= 1; text--) {
            due.is("force", x.force(text), text == 5 ? 0 : text + 1);
            due.is("yields", x.told(0, 8), text * 10 + 1);
            due.is("suits", x.told(0, 9), 1 << text);
            due.is("eases", x.eased(0), text);
        }
        due.is("the rule", x.force(0), 1);
        due.is("yields", x.told(0, 8), 10);
    }
}
