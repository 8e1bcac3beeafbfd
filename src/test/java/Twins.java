import java.util.ArrayList;
import java.util.List;
import java.util.function.Consumer;
import java.util.function.ToLongFunction;

/** Two objects that lived alike; one is asked a call more: its answer, and that both then show the same. */
final class Twins {
    private final Due due;
    private final String named;
    private final Consumer<OtherHalfOfNight> life;

    Twins(Due due, String named, Consumer<OtherHalfOfNight> life) {
        this.due = due;
        this.named = named;
        this.life = life;
    }

    OtherHalfOfNight one() {
        OtherHalfOfNight x = new OtherHalfOfNight();
        life.accept(x);
        return x;
    }

    /** The call answers so, and nothing is otherwise behind it. */
    void same(String call, ToLongFunction<OtherHalfOfNight> asked, long want) {
        OtherHalfOfNight x = one();
        due.is(named + ": " + call, asked.applyAsLong(x), want);
        List<String> shown = new Shown(x).all();
        List<String> other = new Shown(one()).all();
        due.is(named + ": " + call + " changed " + firstUnlike(shown, other), shown.equals(other) ? 0 : 1, 0);
    }

    /** The call answers so, and something is otherwise: or same() above would see nothing. */
    void otherwise(String call, ToLongFunction<OtherHalfOfNight> asked, long want) {
        OtherHalfOfNight x = one();
        due.is(named + ": " + call, asked.applyAsLong(x), want);
        boolean like = new Shown(x).all().equals(new Shown(one()).all());
        due.is(named + ": " + call + " is seen", like ? 0 : 1, 1);
    }

    private static String firstUnlike(List<String> a, List<String> b) {
        for (int i = 0; i < a.size() && i < b.size(); i++) {
            if (!a.get(i).equals(b.get(i))) {
                return a.get(i) + " for " + b.get(i);
            }
        }
        return a.size() + " for " + b.size() + " rows";
    }

    /**
     * A life of which each thing that an object keeps is a part; number 0 is a sleeper.
     * SHEET 3 is missing, as Shown needs it.
     */
    static void lived(OtherHalfOfNight x) {
        Due.text(x, "yields trouble;suits 1;eases 2;");
        Due.text(x, "yields night+9;suits taste<3;eases 1;");
        x.wakes(0, 1, 30);
        x.wakes(3, 4, 20);
        x.wakes(5, 2, 9);
        x.set(1, 0, 12);
        x.set(5, 2, 7);
        x.set(6, 4, 0);
        x.set(0, 0, 3);
        x.night();
        x.image();
        x.force(2);
        x.news(1);
        x.set(3, 1, 11);
        x.night();
        x.set(1, 0, 21);
        x.wakes(4, 5, 50);
        Due.row(x, 0, 0, 0, 5, 9, 1, 6, 8);
        Due.row(x, 1, 1, 14, 15, 16);
        Due.row(x, 2, 2, 2, 3, 4, 0, 0, 1, 7);
        feed(x, "yields 3;suits 0;eases 9;");
    }

    static void feed(OtherHalfOfNight x, String text) {
        for (int i = 0; i < text.length(); i++) {
            x.feed(text.charAt(i));
        }
    }

    /** All that an object answers of what it keeps; it is not fit for other use behind that. */
    static final class Shown {
        private static final int SPARE = 3;
        private final OtherHalfOfNight x;
        private final List<String> rows = new ArrayList<>();
        private final int[] sorts = {-1, -1, -1, -1};
        private final int[] sizes = new int[4];

        Shown(OtherHalfOfNight x) {
            this.x = x;
        }

        List<String> all() {
            world("now");
            nights();
            texts();
            for (int sheet = 0; sheet < 4; sheet++) {
                sheet(sheet);
            }
            show("back", x.back());
            world("image");
            items();
            return rows;
        }

        private void show(String what, long answer) {
            rows.add(what + " = " + answer);
        }

        private void world(String when) {
            for (int what = 0; what < 6; what++) {
                show(when + " count " + what, x.count(what));
            }
            show(when + " hour", x.told(0, 1));
            for (int cup = 0; cup < 6; cup++) {
                show(when + " want of " + cup, x.told(cup, 5));
                show(when + " taste of " + cup, x.told(cup, 6));
                show(when + " hold of " + cup, x.told(cup, 10));
            }
            for (int one = 0; one < x.count(0); one++) {
                for (int what : new int[] {2, 3, 4, 7, 8, 9}) {
                    show(when + " told " + what + " of " + one, x.told(one, what));
                }
                show(when + " eased " + one, x.eased(one));
            }
        }

        private void nights() {
            for (int what = 0; what < 6; what++) {
                show("pour " + what, x.pour(what));
                show("best " + what, x.best(what));
            }
        }

        /** What is on the tape is told by the text that it is, or its fault. */
        private void texts() {
            show("text", x.text());
            int texts = x.count(3);
            int rule = x.count(5);
            for (int text = 0; text < texts; text++) {
                x.force(text);
                show("yields by " + text, x.told(0, 8));
                show("suits by " + text, x.told(0, 9));
                show("eased by " + text, x.eased(0));
            }
            x.force(rule);
        }

        private void sheet(int sheet) {
            for (int sort = 0; sort < 3; sort++) {
                int answer = x.house(sheet, sort, 0, 0);
                show("sort " + sort + " of sheet " + sheet, answer);
                sorts[sheet] = answer == 0 ? sort : sorts[sheet];
            }
            sizes[sheet] = size(sheet);
            show("size of sheet " + sheet, sizes[sheet]);
        }

        /** By a copy onto itself. */
        private int size(int sheet) {
            int low = -1;
            int high = 41;
            while (high - low > 1) {
                int middle = (low + high) / 2;
                if (x.copy(sheet, 0, sheet, 0, middle) == middle) {
                    low = middle;
                } else {
                    high = middle;
                }
            }
            return low;
        }

        /** Number 0, a sleeper by text 1, yields its trouble: the least by which the item is told is the item. */
        private void items() {
            if (x.force(1) < 0 || x.told(0, 7) != 0) {
                return;
            }
            for (int sheet = 0; sheet < SPARE; sheet++) {
                for (int i = 0; i < Math.min(20, sizes[sheet]); i++) {
                    x.sheet(SPARE, sorts[sheet], 1);
                    x.copy(sheet, i, SPARE, 0, 1);
                    show("item " + i + " of sheet " + sheet, x.tells(SPARE, 0, 4));
                }
            }
        }
    }
}
