/** Counts the calls whose answer isn't the one that is due, and says each. */
final class Due {
    private final String test;
    private int asked;
    private int wrong;

    Due(String test) {
        this.test = test;
    }

    void is(String call, long got, long want) {
        asked++;
        if (got != want) {
            wrong++;
            System.out.println(test + ": " + call + " answered " + got + ", due is " + want);
        }
    }

    void end() {
        System.out.println(test + ": " + (asked - wrong) + " of " + asked + " answers are as due");
        if (wrong != 0) {
            System.exit(1);
        }
    }

    /** Feeds a text, and answers as text() does. */
    static int text(OtherHalfOfNight x, String text) {
        for (int i = 0; i < text.length(); i++) {
            x.feed(text.charAt(i));
        }
        return x.text();
    }

    /** A new object whose rule is the text. */
    static OtherHalfOfNight ruledBy(String text) {
        OtherHalfOfNight x = new OtherHalfOfNight();
        int number = text(x, text);
        if (number != 1 || x.force(1) != 0) {
            throw new IllegalStateException(text + ": " + number);
        }
        return x;
    }

    /** A sheet of a sort with these items. */
    static void row(OtherHalfOfNight x, int sheet, int sort, int... items) {
        x.sheet(sheet, sort, items.length);
        for (int i = 0; i < items.length; i++) {
            x.cell(sheet, i, items[i]);
        }
    }
}
