import java.util.ArrayList;
import java.util.List;
import java.util.TreeMap;

/** The document told a second time, plainly and apart from the program, for runs that nobody worked out by hand. */
final class Model {
    static final int NONE = -1, BAD = -2, STATE = -3, FULL = -4;
    static final long NO = -4611686018427387904L;

    /** One of the sleepless. */
    static final class One implements Cloneable {
        int kind;
        int number;
        int trouble;
        int news;

        One same() {
            try {
                return (One) clone();
            } catch (CloneNotSupportedException e) {
                throw new IllegalStateException(e);
            }
        }
    }

    /** What an image keeps. */
    static final class World {
        int night;
        int hour;
        int rule;
        List<One> ones = new ArrayList<>();
        int[] want = {10, 10, 10, 10, 10, 10};
        int[] taste = {0, 1, 2, 3, 4, 5};
        int[] hold = new int[6];

        World same() {
            World w = new World();
            w.night = night;
            w.hour = hour;
            w.rule = rule;
            for (One one : ones) {
                w.ones.add(one.same());
            }
            w.want = want.clone();
            w.taste = taste.clone();
            w.hold = hold.clone();
            return w;
        }
    }

    /** Where names are looked up. */
    interface E {
        int of(World w, One one, int taste);
    }

    /** A text: yields, suits, eases. */
    record Rule(E yields, E suits, E eases) {
    }

    /** The place of a fault. */
    static final class Fault extends Exception {
        final int place;

        Fault(int place) {
            this.place = place;
        }
    }

    record Tok(String is, int at) {
    }

    World w = new World();
    World image;
    final List<Rule> texts = new ArrayList<>();
    final StringBuilder tape = new StringBuilder();
    final int[][] sheets = new int[4][];
    final int[] sorts = new int[4];

    Model() {
        try {
            texts.add(parse("yields 1 + trouble ; suits 1 ; eases 0 ;"));
        } catch (Fault e) {
            throw new IllegalStateException(e);
        }
    }

    // ---- texts

    private List<Tok> toks;
    private int next;

    Rule parse(String text) throws Fault {
        toks = new ArrayList<>();
        next = 0;
        int i = 0;
        while (i < text.length()) {
            char c = text.charAt(i);
            int from = i;
            if (c == ' ' || c == '\n') {
                i++;
                continue;
            }
            if (c >= 'a' && c <= 'z') {
                while (i < text.length() && text.charAt(i) >= 'a' && text.charAt(i) <= 'z') {
                    i++;
                }
                String word = text.substring(from, i);
                boolean known = List.of("yields", "suits", "eases", "or", "and", "not").contains(word)
                        || List.of("trouble", "number", "night", "news", "taste", "hour").contains(word);
                toks.add(new Tok(known ? word : "?", from));
            } else if (c >= '0' && c <= '9') {
                while (i < text.length() && text.charAt(i) >= '0' && text.charAt(i) <= '9') {
                    i++;
                }
                toks.add(new Tok(i - from > 4 ? "?" : text.substring(from, i), from));
            } else {
                i++;
                toks.add(new Tok("();+-*<=".indexOf(c) < 0 ? "?" : "" + c, from));
            }
        }
        toks.add(new Tok("end", text.length()));
        E yields = part("yields");
        E suits = part("suits");
        E eases = part("eases");
        need("end");
        return new Rule(yields, suits, eases);
    }

    private boolean sees(String is) {
        return toks.get(next).is.equals(is);
    }

    private void need(String is) throws Fault {
        if (!sees(is)) {
            throw new Fault(toks.get(next).at);
        }
        next++;
    }

    private E part(String key) throws Fault {
        need(key);
        E e = or(0);
        need(";");
        return e;
    }

    private E or(int open) throws Fault {
        E a = and(open);
        if (!sees("or")) {
            return a;
        }
        List<E> all = new ArrayList<>(List.of(a));
        while (sees("or")) {
            next++;
            all.add(and(open));
        }
        return (w, one, taste) -> all.stream().anyMatch(e -> e.of(w, one, taste) != 0) ? 1 : 0;
    }

    private E and(int open) throws Fault {
        E a = not(open);
        if (!sees("and")) {
            return a;
        }
        List<E> all = new ArrayList<>(List.of(a));
        while (sees("and")) {
            next++;
            all.add(not(open));
        }
        return (w, one, taste) -> all.stream().allMatch(e -> e.of(w, one, taste) != 0) ? 1 : 0;
    }

    private void opens(int open) throws Fault {
        if (open == 5) {
            throw new Fault(toks.get(next).at);
        }
        next++;
    }

    private E not(int open) throws Fault {
        if (sees("not")) {
            opens(open);
            E e = not(open + 1);
            return (w, one, taste) -> e.of(w, one, taste) == 0 ? 1 : 0;
        }
        E a = sum(open);
        if (sees("<")) {
            next++;
            E b = sum(open);
            return (w, one, taste) -> a.of(w, one, taste) < b.of(w, one, taste) ? 1 : 0;
        }
        if (sees("=")) {
            next++;
            E b = sum(open);
            return (w, one, taste) -> a.of(w, one, taste) == b.of(w, one, taste) ? 1 : 0;
        }
        return a;
    }

    private E sum(int open) throws Fault {
        E all = term(open);
        while (sees("+") || sees("-")) {
            E a = all;
            int sign = sees("+") ? 1 : -1;
            next++;
            E b = term(open);
            all = (w, one, taste) -> a.of(w, one, taste) + sign * b.of(w, one, taste);
        }
        return all;
    }

    private E term(int open) throws Fault {
        E all = single(open);
        while (sees("*")) {
            E a = all;
            next++;
            E b = single(open);
            all = (w, one, taste) -> a.of(w, one, taste) * b.of(w, one, taste);
        }
        return all;
    }

    private E single(int open) throws Fault {
        Tok tok = toks.get(next);
        if (Character.isDigit(tok.is.charAt(0))) {
            next++;
            int v = Integer.parseInt(tok.is);
            return (w, one, taste) -> v;
        }
        if (sees("-")) {
            opens(open);
            E e = single(open + 1);
            return (w, one, taste) -> -e.of(w, one, taste);
        }
        if (sees("(")) {
            opens(open);
            E e = or(open + 1);
            need(")");
            return e;
        }
        next++;
        switch (tok.is) {
            case "trouble": return (w, one, taste) -> one.trouble;
            case "number": return (w, one, taste) -> one.number;
            case "night": return (w, one, taste) -> w.night;
            case "news": return (w, one, taste) -> one.news;
            case "taste": return (w, one, taste) -> taste;
            case "hour": return (w, one, taste) -> w.hour;
            default: throw new Fault(tok.at);
        }
    }

    // ---- kinds

    static int bound(int v) {
        return v < 0 ? 0 : v > 99 ? 99 : v;
    }

    int yields(World w, One one) {
        return one.trouble == 0 ? 0 : bound(yieldsAs(w, one, one.kind));
    }

    private int yieldsAs(World w, One one, int kind) {
        int sleeper = bound(texts.get(w.rule).yields.of(w, one, 0));
        switch (kind) {
            case 0: return sleeper;
            case 1: return w.night % 2 != 0 ? sleeper + one.number : sleeper;
            case 2: return sleeper * 2;
            case 3: return Math.min(20, yieldsAs(w, one, 1));
            case 4: return w.hour < 11 ? 0 : yieldsAs(w, one, 2);
            default: return one.news != 0 ? 0 : sleeper;
        }
    }

    boolean suits(World w, One one, int cup) {
        return suitsAs(w, one, cup, one.kind);
    }

    private boolean suitsAs(World w, One one, int cup, int kind) {
        int taste = w.taste[cup];
        boolean yes = texts.get(w.rule).suits.of(w, one, taste) != 0;
        switch (kind) {
            case 0: return yes;
            case 1: return yes && taste != one.number;
            case 2: return yes || taste <= 2;
            case 3: return suitsAs(w, one, cup, 1) || taste == 9;
            case 4: return cup == 5;
            default: return true;
        }
    }

    int eases(World w, One one) {
        return easesAs(w, one, one.kind);
    }

    private int easesAs(World w, One one, int kind) {
        int sleeper = bound(texts.get(w.rule).eases.of(w, one, 0));
        switch (kind) {
            case 0: return sleeper;
            case 1: return sleeper / 2;
            case 2: return 0;
            case 3: return w.night % 7 == 0 ? -1 : easesAs(w, one, 1);
            case 4: return -one.number;
            default: return one.news != 0 ? one.trouble : sleeper;
        }
    }

    // ---- nights

    /** What goes from whom into which cup, and the cups filled. */
    int[][] turns(World w) {
        int[][] goes = new int[w.ones.size()][6];
        w.hold = new int[6];
        for (int i = 0; i < w.ones.size(); i++) {
            int left = yields(w, w.ones.get(i));
            for (int cup = 0; cup < 6; cup++) {
                if (suits(w, w.ones.get(i), cup)) {
                    int much = Math.min(left, w.want[cup] - w.hold[cup]);
                    goes[i][cup] = much;
                    w.hold[cup] += much;
                    left -= much;
                }
            }
        }
        return goes;
    }

    static int all(int[][] goes) {
        int all = 0;
        for (int[] row : goes) {
            for (int v : row) {
                all += v;
            }
        }
        return all;
    }

    int whole(World w) {
        int[] eased = new int[w.ones.size()];
        for (int i = 0; i < eased.length; i++) {
            eased[i] = eases(w, w.ones.get(i));
        }
        int poured = all(turns(w));
        for (int i = 0; i < eased.length; i++) {
            w.ones.get(i).trouble = bound(w.ones.get(i).trouble - eased[i]);
        }
        w.night++;
        return poured;
    }

    static int newsOf(One one) {
        int was = one.trouble;
        one.news = Math.min(99, one.news + 1);
        one.trouble = 0;
        return was;
    }

    // ---- what could be poured: by a flow that is made greater drop by drop

    int flow(int without, int[] want) {
        int n = w.ones.size();
        int[] left = new int[n];
        for (int i = 0; i < n; i++) {
            left[i] = i == without ? 0 : yields(w, w.ones.get(i));
        }
        int[] room = want.clone();
        int[][] goes = new int[n][6];
        int all = 0;
        for (int i = 0; i < n; i++) {
            while (left[i] > 0 && drop(i, new boolean[n], room, goes)) {
                left[i]--;
                all++;
            }
        }
        return all;
    }

    private boolean drop(int i, boolean[] seen, int[] room, int[][] goes) {
        seen[i] = true;
        for (int cup = 0; cup < 6; cup++) {
            if (!suits(w, w.ones.get(i), cup)) {
                continue;
            }
            if (room[cup] > 0) {
                room[cup]--;
                goes[i][cup]++;
                return true;
            }
            for (int other = 0; other < seen.length; other++) {
                if (!seen[other] && goes[other][cup] > 0 && drop(other, seen, room, goes)) {
                    goes[other][cup]--;
                    goes[i][cup]++;
                    return true;
                }
            }
        }
        return false;
    }

    int cut() {
        int most = flow(-1, w.want);
        for (int set = 0;; set++) {
            int sum = 0;
            for (int i = 0; i < w.ones.size(); i++) {
                sum += (set >> i & 1) != 0 ? 0 : yields(w, w.ones.get(i));
            }
            for (int cup = 0; cup < 6; cup++) {
                boolean suited = false;
                for (int i = 0; i < w.ones.size(); i++) {
                    suited |= (set >> i & 1) != 0 && suits(w, w.ones.get(i), cup);
                }
                sum += suited ? w.want[cup] : 0;
            }
            if (sum == most) {
                return set;
            }
        }
    }

    // ---- the calls

    boolean one(int one) {
        return 0 <= one && one < w.ones.size();
    }

    static boolean in(int v, int from, int to) {
        return from <= v && v <= to;
    }

    int set(int what, int of, int v) {
        if (!in(what, 0, 6) || !in(v, 0, new int[] {999, 23, 9, 99, 99, 99, 9}[what])) {
            return BAD;
        }
        if (in(what, 2, 4) && !one(of) || what >= 5 && !in(of, 0, 5)) {
            return BAD;
        }
        int was = told(of, what);
        switch (what) {
            case 0 -> w.night = v;
            case 1 -> w.hour = v;
            case 2 -> w.ones.get(of).number = v;
            case 3 -> w.ones.get(of).trouble = v;
            case 4 -> w.ones.get(of).news = v;
            case 5 -> w.want[of] = v;
            default -> w.taste[of] = v;
        }
        return was;
    }

    int wakes(int kind, int number, int trouble) {
        if (!in(kind, 0, 5) || !in(number, 0, 9) || !in(trouble, 0, 99)) {
            return BAD;
        }
        if (w.ones.size() == 5) {
            return FULL;
        }
        One one = new One();
        one.kind = kind;
        one.number = number;
        one.trouble = trouble;
        w.ones.add(one);
        return w.ones.size() - 1;
    }

    int told(int of, int what) {
        if (what == 0) {
            return w.night;
        }
        if (what == 1) {
            return w.hour;
        }
        if (what == 5 || what == 6 || what == 10) {
            return !in(of, 0, 5) ? BAD : what == 5 ? w.want[of] : what == 6 ? w.taste[of] : w.hold[of];
        }
        if (!in(what, 2, 9) || !one(of)) {
            return BAD;
        }
        One one = w.ones.get(of);
        int bits = 0;
        for (int cup = 0; cup < 6; cup++) {
            bits += suits(w, one, cup) ? 1 << cup : 0;
        }
        return switch (what) {
            case 2 -> one.number;
            case 3 -> one.trouble;
            case 4 -> one.news;
            case 7 -> one.kind;
            case 8 -> yields(w, one);
            default -> bits;
        };
    }

    int eased(int one) {
        return one(one) ? eases(w, w.ones.get(one)) : -1000;
    }

    int feed(int letter) {
        if (!in(letter, 0, 255)) {
            return BAD;
        }
        if (tape.length() == 160) {
            return FULL;
        }
        tape.append((char) letter);
        return tape.length();
    }

    int text() {
        if (texts.size() == 6) {
            return FULL;
        }
        String text = tape.toString();
        tape.setLength(0);
        try {
            texts.add(parse(text));
            return texts.size() - 1;
        } catch (Fault fault) {
            return -100 - fault.place;
        }
    }

    int force(int text) {
        if (!in(text, 0, texts.size() - 1)) {
            return BAD;
        }
        int was = w.rule;
        w.rule = text;
        return was;
    }

    int night() {
        return w.night == 999 ? STATE : whole(w);
    }

    int news(int one) {
        return one(one) ? newsOf(w.ones.get(one)) : BAD;
    }

    int run(int one, int cup, int n, int what) {
        if (!one(one) || !in(cup, 0, 5) || !in(n, 0, 40) || !in(what, 0, 2)) {
            return BAD;
        }
        World t = w.same();
        int poured = 0;
        for (int i = 0; i < n; i++) {
            poured += whole(t);
        }
        return what == 0 ? t.ones.get(one).trouble : what == 1 ? poured : t.hold[cup];
    }

    int sleeps(int one) {
        if (!one(one)) {
            return BAD;
        }
        World t = w.same();
        for (int n = 0; n <= 60; n++) {
            if (t.ones.get(one).trouble == 0) {
                return n;
            }
            whole(t);
        }
        return NONE;
    }

    int pour(int what) {
        World t = w.same();
        int[][] goes = turns(t);
        int full = 0;
        int starved = 63;
        for (int cup = 0; cup < 6; cup++) {
            full += t.hold[cup] == w.want[cup] ? 1 << cup : 0;
            for (One one : w.ones) {
                if (yields(w, one) > 0 && suits(w, one, cup)) {
                    starved &= ~(1 << cup);
                }
            }
        }
        return switch (what) {
            case 0 -> flow(-1, w.want);
            case 1 -> cut();
            case 2 -> flow(-1, w.want) - all(goes);
            case 3 -> all(goes);
            case 4 -> full;
            case 5 -> starved;
            default -> BAD;
        };
    }

    int best(int what) {
        if (!in(what, 0, 5)) {
            return BAD;
        }
        TreeMap<Integer, Integer> first = new TreeMap<>();
        if (what < 2) {
            for (int i = 0; i < w.ones.size(); i++) {
                first.putIfAbsent(flow(i, w.want), i);
            }
        } else {
            for (int cup = 0; cup < 6; cup++) {
                int[] want = w.want.clone();
                want[cup] = what < 4 ? 0 : Math.min(99, want[cup] + 1);
                first.putIfAbsent(flow(-1, want), cup);
            }
        }
        if (first.isEmpty()) {
            return what == 0 ? NONE : 0;
        }
        return what % 2 == 0 ? first.lastEntry().getValue() : first.lastKey();
    }

    static long lowest(int above, int below, int part) {
        for (int by = below; by > 1; by--) {
            if (above % by == 0 && below % by == 0) {
                return (part == 0 ? above : below) / by;
            }
        }
        return part == 0 ? above : below;
    }

    long blend(int one, int cup, int part) {
        if (!one(one) || !in(cup, 0, 5) || !in(part, 0, 1)) {
            return NO;
        }
        World t = w.same();
        int[][] goes = turns(t);
        return t.hold[cup] == 0 ? NO : lowest(goes[one][cup], t.hold[cup], part);
    }

    int[] tale(World start, int one, int n) {
        World t = start.same();
        int[] tale = new int[n];
        for (int i = 0; i < n; i++) {
            tale[i] = yields(t, t.ones.get(one));
            whole(t);
        }
        return tale;
    }

    static int otherwise(int[] a, int[] b) {
        for (int i = 0; i < a.length; i++) {
            if (a[i] != b[i]) {
                return i;
            }
        }
        return NONE;
    }

    int tells(int sheet, int one, int what) {
        if (!in(sheet, 0, 3) || !one(one) || !in(what, 0, 7)) {
            return BAD;
        }
        int[] row = sheets[sheet];
        if (row == null) {
            return -11;
        }
        if (row.length > 20) {
            return BAD;
        }
        if (what == 0) {
            return otherwise(row, tale(w, one, row.length));
        }
        int many = new int[] {0, 6, 10, 100, 100, 24, texts.size(), w.ones.size()}[what];
        int bits = 0;
        int count = 0;
        int least = NONE;
        for (int v = 0; v < many; v++) {
            World t = w.same();
            One who = t.ones.get(one);
            switch (what) {
                case 1 -> who.kind = v;
                case 2 -> who.number = v;
                case 5 -> t.hour = v;
                case 6 -> t.rule = v;
                case 7 -> { }
                default -> who.trouble = v;
            }
            if (otherwise(row, tale(t, what == 7 ? v : one, row.length)) == NONE) {
                bits |= what == 3 || what == 4 ? 0 : 1 << v;
                count++;
                least = least == NONE ? v : least;
            }
        }
        return what == 3 ? count : what == 4 ? least : bits;
    }

    int film(int sheet, int one, int n) {
        if (!in(sheet, 0, 3) || !one(one) || !in(n, 0, 20)) {
            return BAD;
        }
        sheets[sheet] = tale(w, one, n);
        sorts[sheet] = 0;
        int all = 0;
        for (int v : sheets[sheet]) {
            all += v;
        }
        return all;
    }

    int drawn(int seed, int n) {
        if (!in(n, 0, 40)) {
            return BAD;
        }
        World t = w.same();
        long z = seed & 0xffffffffL;
        int poured = 0;
        for (int i = 0; i < n; i++) {
            z = (z * 1103515245L + 12345L) & 0xffffffffL;
            int who = (int) (z / 512 % 8);
            if (who < t.ones.size()) {
                newsOf(t.ones.get(who));
            }
            poured += whole(t);
        }
        return poured;
    }

    long chance(int seed, int m, int k, int part) {
        if (!in(m, 1, 20) || !in(k, 0, 9999) || !in(part, 0, 1)) {
            return NO;
        }
        int enough = 0;
        for (int i = 0; i < m; i++) {
            enough += drawn(seed + i, 6) >= k ? 1 : 0;
        }
        return lowest(enough, m, part);
    }

    int image() {
        image = w.same();
        return w.ones.size();
    }

    int back() {
        if (image == null) {
            return STATE;
        }
        w = image.same();
        return w.ones.size();
    }

    int count(int what) {
        int held = 0;
        for (int v : w.hold) {
            held += v;
        }
        return in(what, 0, 5) ? new int[] {w.ones.size(), held, w.night, texts.size(), tape.length(), w.rule}[what] : BAD;
    }

    int sheet(int sheet, int sort, int n) {
        if (!in(sheet, 0, 3) || !in(sort, -1, 2)) {
            return BAD;
        }
        if (sort == -1) {
            sheets[sheet] = null;
            return 1;
        }
        if (n > 40) {
            return BAD;
        }
        if (n < 0) {
            return -14;
        }
        sheets[sheet] = new int[n];
        sorts[sheet] = sort;
        return 1;
    }

    int cell(int sheet, int i, int v) {
        if (!in(sheet, 0, 3)) {
            return BAD;
        }
        if (sheets[sheet] == null) {
            return -11;
        }
        if (!in(i, 0, sheets[sheet].length - 1)) {
            return -12;
        }
        sheets[sheet][i] = sorts[sheet] == 0 ? (byte) v : sorts[sheet] == 1 ? (short) v : v;
        return 1;
    }

    int copy(int sheet, int i, int other, int j, int n) {
        if (!in(sheet, 0, 3) || !in(other, 0, 3)) {
            return BAD;
        }
        if (sheets[sheet] == null || sheets[other] == null) {
            return -11;
        }
        if (sorts[sheet] != sorts[other]) {
            return -13;
        }
        if (n < 0 || i < 0 || j < 0 || (long) i + n > sheets[sheet].length || (long) j + n > sheets[other].length) {
            return -12;
        }
        int[] were = sheets[sheet].clone();
        for (int k = 0; k < n; k++) {
            sheets[other][j + k] = were[i + k];
        }
        return n;
    }

    int house(int sheet, int sort, int from, int n) {
        if (!in(sheet, 0, 3) || !in(sort, 0, 2) || !in(n, 0, 5)) {
            return BAD;
        }
        if (sheets[sheet] != null && sorts[sheet] != sort) {
            return -13;
        }
        if (sheets[sheet] == null) {
            return -11;
        }
        int came = 0;
        for (long at = from; at < (long) from + 3 * n; at += 3) {
            if (at < 0 || at + 3 > sheets[sheet].length) {
                return -12;
            }
            int a = (int) at;
            came += wakes(sheets[sheet][a], sheets[sheet][a + 1], sheets[sheet][a + 2]) >= 0 ? 1 : 0;
        }
        return came;
    }

    int taken(int one, int k) {
        if (!in(k, 0, 5)) {
            return BAD;
        }
        if (!one(one)) {
            return -11;
        }
        int[] under = {-1, 0, 0, 1, 2, 0};
        for (int kind = w.ones.get(one).kind; kind >= 0; kind = under[kind]) {
            if (kind == k) {
                return w.ones.get(one).number;
            }
        }
        return -13;
    }
}
