import java.util.ArrayList;
import java.util.List;
import java.util.function.Function;
import java.util.function.IntUnaryOperator;
import java.util.regex.Matcher;
import java.util.regex.Pattern;

/**
 * The document once more, written apart from the program and by other means: kinds are classes, a day's
 * copy is a deep one, countries are matched by an expanded pattern, tapes are the host's own arrays and
 * its refusals the host's own exceptions. It is slow and makes objects freely; only tests use it.
 */
public final class Model {
    static final int NONE = -1, BAD = -2, STATE = -3, FULL = -4;
    static final long NO = Long.MIN_VALUE;

    // ---- kinds

    static class Borrower implements Cloneable {
        int i, v, wants, every, has, left, owes, sent;
        int[] row = new int[4];
        List<Integer> trace;

        int kind() { return 0; }
        int asks(World w) { return wants; }
        int keeps() { return 3; }
        boolean staysAway() { return false; }
        int bringsBack() { return has; }

        int sinks(int x) { trace.add(10); return x + i; }
        int borrows(int x) { trace.add(11); return sinks(x) - v; }
        int tells(int x) { trace.add(12); return borrows(x) * 2; }

        Borrower copy() {
            try {
                Borrower b = (Borrower) clone();
                b.row = row.clone();
                return b;
            } catch (CloneNotSupportedException e) {
                throw new IllegalStateException(e);
            }
        }
    }

    static class Late extends Borrower {
        int kind() { return 1; }
        int keeps() { return 3 + v; }
        int borrows(int x) { trace.add(20); return super.borrows(x) ^ 6; }
    }

    static class Greedy extends Borrower {
        int kind() { return 2; }
        int asks(World w) { return wants * 2; }
        int sinks(int x) { trace.add(30); return super.sinks(x * 3); }
    }

    static class Losing extends Borrower {
        int kind() { return 3; }
        int bringsBack() { return has - has / 10; }
        int tells(int x) { trace.add(40); return super.tells(x) + borrows(1); }
    }

    static class Stray extends Late {
        int kind() { return 4; }
        boolean staysAway() { return owes > 30; }
        int sinks(int x) { trace.add(50); return -super.sinks(x); }
        int borrows(int x) { trace.add(51); return super.borrows(x + 1); }
    }

    static class Taking extends Greedy {
        int kind() { return 5; }
        int asks(World w) {
            int above = w.depth - w.mark();
            return above <= 0 ? 0 : Math.min(super.asks(w), above);
        }
        int tells(int x) { trace.add(60); return super.tells(x - i); }
    }

    static class Told extends Losing {
        int kind() { return 6; }
        int asks(World w) { return super.asks(w) + row[w.day % 4]; }
        int borrows(int x) { trace.add(70); return super.borrows(x) + super.sinks(2); }
        int sinks(int x) { trace.add(71); return super.sinks(x) ^ v; }
    }

    static final Class<?>[] KINDS = {
        Borrower.class, Late.class, Greedy.class, Losing.class, Stray.class, Taking.class, Told.class};

    static Borrower born(int kind) {
        switch (kind) {
            case 0: return new Borrower();
            case 1: return new Late();
            case 2: return new Greedy();
            case 3: return new Losing();
            case 4: return new Stray();
            case 5: return new Taking();
            default: return new Told();
        }
    }

    // ---- countries

    interface Condition { boolean holds(World w, Borrower b); }

    static final Pattern[] COUNTRY = {countryPattern()};

    static Pattern countryPattern() {
        String test = "[bkvhld][<=>][0-9][0-9]?";
        String part = test;
        for (int i = 0; i < 4; i++) {
            part = "(?:" + test + "|!" + part + "|\\(" + either(part) + "\\))";
        }
        String clause = "(?:dear [0-9][0-9]? " + either(part) + "|cheap [0-9][0-9]? " + either(part)
            + "|mark [0-9][0-9]?|spring [0-9][0-9]?|fine [0-9][0-9]?)";
        return Pattern.compile(clause + "(?:;" + clause + "){0,9}", Pattern.DOTALL);
    }

    static String either(String part) {
        String both = "(?:" + part + "(?:&" + part + ")*)";
        return "(?:" + both + "(?:\\|" + both + ")*)";
    }

    /** -1: none. */
    static int fault(String text) {
        for (int p = 0; p <= text.length(); p++) {
            Matcher m = COUNTRY[0].matcher(text.substring(0, p));
            boolean whole = m.matches();
            if (p == text.length()) {
                if (whole) {
                    return -1;
                }
                return m.hitEnd() ? p : p - 1;
            }
            if (!whole && !m.hitEnd()) {
                return p - 1;
            }
        }
        throw new IllegalStateException();
    }

    static final class Country {
        Integer mark, spring, fine;
        List<Integer> prices = new ArrayList<>();
        List<Condition> conditions = new ArrayList<>();

        Country(String text) {
            for (String clause : text.split(";")) {
                String[] parts = clause.split(" ");
                int n = Integer.parseInt(parts[1]);
                switch (parts[0]) {
                    case "mark": mark = n; break;
                    case "spring": spring = n; break;
                    case "fine": fine = n; break;
                    default:
                        prices.add(parts[0].equals("dear") ? n : -n);
                        conditions.add(parse(parts[2]));
                        break;
                }
            }
        }

        /** Cut at the outermost |, then the outermost &, then take off what stands ahead. */
        static Condition parse(String e) {
            int cut = outermost(e, '|');
            if (cut >= 0) {
                Condition a = parse(e.substring(0, cut));
                Condition b = parse(e.substring(cut + 1));
                return (w, x) -> a.holds(w, x) || b.holds(w, x);
            }
            cut = outermost(e, '&');
            if (cut >= 0) {
                Condition a = parse(e.substring(0, cut));
                Condition b = parse(e.substring(cut + 1));
                return (w, x) -> a.holds(w, x) && b.holds(w, x);
            }
            if (e.charAt(0) == '!') {
                Condition a = parse(e.substring(1));
                return (w, x) -> !a.holds(w, x);
            }
            if (e.charAt(0) == '(') {
                return parse(e.substring(1, e.length() - 1));
            }
            int n = Integer.parseInt(e.substring(2));
            char sign = e.charAt(1);
            return (w, x) -> {
                int f = fact(e.charAt(0), w, x);
                return sign == '<' ? f < n : sign == '=' ? f == n : f > n;
            };
        }

        static int outermost(String e, char sign) {
            int open = 0;
            for (int i = 0; i < e.length(); i++) {
                char c = e.charAt(i);
                open += c == '(' ? 1 : c == ')' ? -1 : 0;
                if (open == 0 && c == sign) {
                    return i;
                }
            }
            return -1;
        }

        static int fact(char letter, World w, Borrower b) {
            switch (letter) {
                case 'b': return b.i;
                case 'k': return b.kind();
                case 'v': return b.v;
                case 'h': return b.has / 10;
                case 'l': return b.left;
                default: return w.day % 10;
            }
        }
    }

    // ---- the world

    static final class World {
        int depth = 100, day = 0, away = 0;
        Borrower absent;
        Integer markAs;
        Country country;
        List<Borrower> borrowers = new ArrayList<>();
        List<Integer> line = new ArrayList<>();
        List<int[]> seen = new ArrayList<>(), year = new ArrayList<>(), book = new ArrayList<>();

        World copy() {
            World w = new World();
            w.depth = depth;
            w.day = day;
            w.country = country;
            for (Borrower b : borrowers) {
                w.borrowers.add(b.copy());
            }
            w.line.addAll(line);
            w.seen.addAll(seen);
            w.year.addAll(year);
            w.book.addAll(book);
            return w;
        }

        int mark() {
            return markAs != null ? markAs : country == null || country.mark == null ? 10 : country.mark;
        }

        int spring() { return country == null || country.spring == null ? 0 : country.spring; }

        int fine() { return country == null || country.fine == null ? 0 : country.fine; }

        int rate(Borrower b) {
            int r = 1;
            for (int i = 0; country != null && i < country.prices.size(); i++) {
                r += country.conditions.get(i).holds(this, b) ? country.prices.get(i) : 0;
            }
            return r < 0 ? 0 : r;
        }

        int owes() { return borrowers.stream().mapToInt(b -> b.owes).sum(); }

        void deeper(int n) { depth = Math.min(9999, depth + n); }

        void call(Borrower b) {
            deeper(b.has);
            b.has = 0;
            b.left = 0;
        }

        void go() {
            for (int at : line) {
                look(borrowers.get(at));
            }
            deeper(spring());
            day++;
        }

        void look(Borrower b) {
            if (b.has != 0) {
                b.owes = Math.min(99999, b.owes + rate(b) * b.has / 10);
                b.left = b.left == 0 ? 0 : b.left - 1;
                if (b.left == 0 && b.staysAway()) {
                    b.left = b.keeps();
                } else if (b.left == 0) {
                    deeper(b.bringsBack());
                    b.has = 0;
                }
                return;
            }
            if (b == absent || day % b.every != 0) {
                return;
            }
            int so = b.asks(this);
            if (so > 0 && depth - so >= mark()) {
                depth -= so;
                b.has = so;
                b.left = b.keeps();
            } else {
                b.sent++;
                away++;
                b.owes = b.owes < fine() ? 0 : b.owes - fine();
            }
        }

        World after(int n) {
            for (int i = 0; i < n; i++) {
                go();
            }
            return this;
        }
    }

    World w = new World();
    World image = null;
    List<Country> countries = new ArrayList<>();
    StringBuilder text = new StringBuilder();
    List<Integer> trace = new ArrayList<>();
    Object[] tapes = new Object[6];

    Borrower at(int b) { return b >= 0 && b < w.borrowers.size() ? w.borrowers.get(b) : null; }

    static boolean in(int n, int a, int b) { return a <= n && n <= b; }

    public int borrower(int kind, int v, int wants, int every) {
        if (!in(kind, 0, 6)) return NONE;
        if (!in(v, 0, 9) || !in(wants, 1, 99) || !in(every, 1, 20)) return BAD;
        if (w.borrowers.size() == 6) return FULL;
        Borrower b = born(kind);
        b.i = w.borrowers.size();
        b.v = v;
        b.wants = wants;
        b.every = every;
        w.borrowers.add(b);
        w.line.add(b.i);
        return b.i;
    }

    public int of(int borrower, int what) {
        Borrower b = at(borrower);
        if (b == null || !in(what, 0, 12)) return NONE;
        int[] all = {b.kind(), b.v, b.wants, b.every, b.has, b.left, b.owes, b.sent, w.rate(b), b.asks(w),
            b.keeps(), b.staysAway() ? 1 : 0, b.bringsBack()};
        return all[what];
    }

    public int set(int borrower, int what, int n) {
        Borrower b = at(borrower);
        if (b == null || !in(what, 0, 1)) return NONE;
        if (n < 1 || n > (what == 0 ? 99 : 20)) return BAD;
        int was = what == 0 ? b.wants : b.every;
        if (what == 0) b.wants = n; else b.every = n;
        return was;
    }

    public int row(int borrower, int part, int n) {
        Borrower b = at(borrower);
        if (b == null || !in(part, 0, 3)) return NONE;
        if (!in(n, 0, 9)) return BAD;
        if (!(b instanceof Told)) return STATE;
        int was = b.row[part];
        b.row[part] = n;
        return was;
    }

    public int depth(int n) {
        if (!in(n, 0, 9999)) return BAD;
        int was = w.depth;
        w.depth = n;
        return was;
    }

    public int change(int one, int other) {
        if (at(one) == null || at(other) == null) return NONE;
        if (one == other) return BAD;
        int was = w.line.get(one);
        w.line.set(one, w.line.get(other));
        w.line.set(other, was);
        return was;
    }

    public int call(int borrower) {
        Borrower b = at(borrower);
        if (b == null) return NONE;
        int had = b.has;
        if (had == 0) return STATE;
        w.call(b);
        return had;
    }

    public int feed(int sign) {
        if (!in(sign, 0, 127)) return BAD;
        if (text.length() == 100) return FULL;
        return text.append((char) sign).length();
    }

    public int country() {
        if (countries.size() == 6) return FULL;
        String read = text.toString();
        text.setLength(0);
        int fault = fault(read);
        if (fault >= 0) return -10 - fault;
        w.country = new Country(read);
        countries.add(w.country);
        return countries.size() - 1;
    }

    public int told(int what) {
        if (what >= 10) return what - 10 < w.line.size() ? w.line.get(what - 10) : NONE;
        if (what < 0 || what > 5) return NONE;
        return new int[] {w.day, w.depth, w.mark(), w.spring(), w.fine(), w.owes()}[what];
    }

    public int pass(int n) {
        if (!in(n, 0, 60)) return BAD;
        if (w.day + n > 9999) return STATE;
        return w.after(n).depth;
    }

    public int on(int n, int what) {
        Borrower has = what > 9 ? at(what - 10) : null;
        Borrower owes = what > 19 ? at(what - 20) : null;
        if (!in(what, 0, 2) && has == null && owes == null) return NONE;
        if (!in(n, 0, 60)) return BAD;
        World t = w.copy().after(n);
        if (has != null) return t.borrowers.get(has.i).has;
        if (owes != null) return t.borrowers.get(owes.i).owes;
        return what == 0 ? t.depth : what == 1 ? t.away : t.owes();
    }

    public int lowest(int n, int what) {
        if (!in(what, 0, 1)) return NONE;
        if (!in(n, 0, 60)) return BAD;
        int behind = 0;
        for (int i = 0; i <= n; i++) {
            if (w.copy().after(i).depth < w.copy().after(behind).depth) behind = i;
        }
        return what == 0 ? w.copy().after(behind).depth : behind;
    }

    public int first() {
        World t = w.copy();
        for (int i = 0; i <= 60; i++) {
            t.go();
            if (t.away > 0) return i;
        }
        return -5;
    }

    static int turned(World t) { return t.after(30).away; }

    public int best(int what) {
        int now = turned(w.copy());
        int best = now;
        int which = -5;
        switch (what) {
            case 0:
                for (Borrower b : w.borrowers) {
                    World t = w.copy();
                    t.call(t.borrowers.get(b.i));
                    int so = turned(t);
                    if (b.has > 0 && so < best) {
                        best = so;
                        which = b.i;
                    }
                }
                return which;
            case 1:
                for (int one = 0; one < w.line.size(); one++) {
                    for (int other = one + 1; other < w.line.size(); other++) {
                        World t = w.copy();
                        java.util.Collections.swap(t.line, one, other);
                        int so = turned(t);
                        if (so < best) {
                            best = so;
                            which = one * 10 + other;
                        }
                    }
                }
                return which;
            case 2: return leastOf(95, 0, -5, n -> {
                World t = w.copy();
                t.markAs = n;
                return turned(t);
            });
            case 3: return now;
            default: return NONE;
        }
    }

    /** The first, from one number on to another, of which a thing is least. */
    static int leastOf(int from, int to, int step, IntUnaryOperator f) {
        int best = from;
        for (int n = from; step > 0 ? n <= to : n >= to; n += step) {
            if (f.applyAsInt(n) < f.applyAsInt(best)) best = n;
        }
        return best;
    }

    public int seldom(int borrower) {
        if (at(borrower) == null) return NONE;
        return leastOf(1, 20, 1, n -> {
            World t = w.copy();
            t.borrowers.get(borrower).every = n;
            return turned(t);
        });
    }

    public int more(int n) {
        if (!in(n, 1, 12)) return BAD;
        for (int m = 0; m <= 990; m += 10) {
            World t = w.copy();
            t.deeper(m);
            if (t.after(n).away == 0) return m;
        }
        return -5;
    }

    public int see(int depth, int n) {
        if (depth == -1) {
            w.seen.clear();
            return 0;
        }
        if (!in(depth, 0, 9999) || !in(n, 0, 10)) return BAD;
        if (w.seen.size() == 5) return FULL;
        w.seen.add(new int[] {depth, n});
        return w.seen.size();
    }

    int fitting(int from, int to, int what, Function<Integer, World> made) {
        int many = 0;
        int least = -5;
        for (int n = from; n <= to; n++) {
            int m = n;
            if (w.seen.stream().allMatch(s -> made.apply(m).after(s[1]).depth == s[0])) {
                many++;
                least = least == -5 ? n : least;
            }
        }
        return what == 0 ? many : least;
    }

    public int wanted(int borrower, int what) {
        if (at(borrower) == null || !in(what, 0, 1)) return NONE;
        return fitting(1, 99, what, n -> {
            World t = w.copy();
            t.borrowers.get(borrower).wants = n;
            return t;
        });
    }

    public int can(int borrower, int what) {
        if (at(borrower) == null || !in(what, 0, 1)) return NONE;
        return fitting(0, 9, what, n -> {
            World t = w.copy();
            t.borrowers.get(borrower).v = n;
            return t;
        });
    }

    static long lowest(long a, long b, int part) {
        long g = java.math.BigInteger.valueOf(a).gcd(java.math.BigInteger.valueOf(b)).longValue();
        return (part == 0 ? a : b) / g;
    }

    public long odds(int n, int part) {
        if (!in(n, 0, 60) || !in(part, 0, 1) || w.borrowers.isEmpty()) return NO;
        int good = 0;
        for (Borrower b : w.borrowers) {
            World t = w.copy();
            t.absent = t.borrowers.get(b.i);
            if (t.after(n).away == 0) good++;
        }
        return lowest(good, w.borrowers.size(), part);
    }

    public long mean(int n, int part) {
        if (!in(n, 0, 60) || !in(part, 0, 1) || w.borrowers.isEmpty()) return NO;
        return lowest(w.copy().after(n).owes(), w.borrowers.size(), part);
    }

    public int year(int what, int borrower) {
        if (what == -1) {
            w.year.clear();
            return 0;
        }
        if (!in(what, 0, 2) || what == 1 && at(borrower) == null) return NONE;
        if (w.year.size() == 10) return FULL;
        w.year.add(new int[] {what, borrower});
        return w.year.size();
    }

    public int gone(int what) {
        if (!in(what, 0, 1)) return NONE;
        World t = w.copy();
        for (int[] row : w.year) {
            if (row[0] == 0) t.go();
            if (row[0] == 1) t.call(t.borrowers.get(row[1]));
            if (row[0] == 2) t.deeper(10);
        }
        return what == 0 ? t.depth : t.away;
    }

    public int book(int borrower, int owes) {
        if (borrower == -1) {
            w.book.clear();
            return 0;
        }
        if (at(borrower) == null) return NONE;
        if (!in(owes, 0, 99999)) return BAD;
        if (w.book.size() == 8) return FULL;
        w.book.add(new int[] {borrower, owes});
        return w.book.size();
    }

    public int looked() {
        for (int i = 0; i < w.book.size(); i++) {
            if (at(w.book.get(i)[0]).owes != w.book.get(i)[1]) return i;
        }
        return -5;
    }

    public int judge(int tape, int i) {
        if (!in(tape, 0, 5)) return NONE;
        int looked = 0;
        try {
            int[] row = (int[]) tapes[tape];
            for (Borrower b : w.borrowers) {
                if (row[i + looked] != b.has) return looked;
                looked++;
            }
            return -5;
        } catch (ClassCastException e) {
            return -12;
        } catch (NullPointerException | ArrayIndexOutOfBoundsException e) {
            return 100 + looked;
        }
    }

    public int image() {
        image = w.copy();
        return w.borrowers.size();
    }

    public int undo() {
        if (image == null) return STATE;
        w = image.copy();
        return w.borrowers.size();
    }

    public int act(int borrower, int act, int x) {
        trace = new ArrayList<>();
        Borrower b = at(borrower);
        if (b == null || !in(act, 0, 2)) return 0;
        b.trace = trace;
        return act == 0 ? b.sinks(x) : act == 1 ? b.borrows(x) : b.tells(x);
    }

    public int trace(int i) { return in(i, 0, Math.min(20, trace.size()) - 1) ? trace.get(i) : NONE; }

    public int taken(int borrower, int k) {
        if (!in(k, 0, 6)) return BAD;
        try {
            return ((Borrower) KINDS[k].cast(java.util.Objects.requireNonNull(at(borrower)))).kind();
        } catch (NullPointerException e) {
            return -11;
        } catch (ClassCastException e) {
            return -12;
        }
    }

    public int count(int what) {
        if (!in(what, 0, 6)) return BAD;
        return new int[] {w.borrowers.size(), countries.size(), w.seen.size(), w.year.size(), w.book.size(),
            text.length(), trace.size()}[what];
    }

    public int tape(int tape, int sort, int n) {
        if (!in(tape, 0, 5)) return NONE;
        if (!in(sort, -1, 4) || sort >= 0 && n > 60) return BAD;
        try {
            tapes[tape] = sort == -1 ? null : sort == 0 ? new byte[n] : sort == 1 ? new short[n]
                : sort == 2 ? new int[n] : sort == 3 ? (Object) new long[n] : new boolean[n];
            return 1;
        } catch (NegativeArraySizeException e) {
            return -14;
        }
    }

    public int item(int tape, int i, long v) {
        if (!in(tape, 0, 5)) return NONE;
        Object row = tapes[tape];
        try {
            if (row == null) return -11;
            if (row instanceof byte[]) ((byte[]) row)[i] = (byte) v;
            if (row instanceof short[]) ((short[]) row)[i] = (short) v;
            if (row instanceof int[]) ((int[]) row)[i] = (int) v;
            if (row instanceof long[]) ((long[]) row)[i] = v;
            if (row instanceof boolean[]) ((boolean[]) row)[i] = v != 0;
            return 1;
        } catch (ArrayIndexOutOfBoundsException e) {
            return -13;
        }
    }

    public long read(int tape, int i) {
        try {
            Object row = tapes[tape];
            if (row instanceof boolean[]) return ((boolean[]) row)[i] ? 1 : 0;
            return java.lang.reflect.Array.getLong(row, i);
        } catch (NullPointerException | ArrayIndexOutOfBoundsException e) {
            return NO;
        }
    }

    public int shift(int tape, int i, int other, int j, int n) {
        if (!in(tape, 0, 5) || !in(other, 0, 5)) return NONE;
        try {
            System.arraycopy(tapes[tape], i, tapes[other], j, n);
            return n;
        } catch (NullPointerException e) {
            return -11;
        } catch (ArrayStoreException e) {
            return -12;
        } catch (IndexOutOfBoundsException e) {
            return -13;
        }
    }
}
