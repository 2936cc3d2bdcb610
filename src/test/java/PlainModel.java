import java.util.ArrayList;
import java.util.Comparator;
import java.util.List;
import java.util.regex.Matcher;
import java.util.regex.Pattern;

/**
 * The document once more, in the plainest words of the Java library and as unlike the program as can be:
 * patterns for texts, classes with super for acts, all orders for BEST, all bits for FEWEST, the host's own
 * refusals for tapes. RandomRunsTest holds the program's answers against these.
 */
final class PlainModel {
    static final int NONE = -1, BAD = -2, STATE = -3, FULL = -4;
    static final long NO = Long.MIN_VALUE;

    // ---- the classes of DAYS, just as the document tells their bodies

    static class Day {
        final int i, l;
        final List<Integer> ran;
        Day(int i, int l, List<Integer> ran) { this.i = i; this.l = l; this.ran = ran; }
        int counts(int x) { ran.add(10); return x + i; }
        int owes(int x) { ran.add(11); return counts(x) - l; }
        int ranks(int x) { ran.add(12); return owes(x) * 2; }
    }
    static class Paid extends Day {
        Paid(int i, int l, List<Integer> ran) { super(i, l, ran); }
        @Override int owes(int x) { ran.add(20); return super.owes(x) ^ 3; }
    }
    static class Lent extends Day {
        Lent(int i, int l, List<Integer> ran) { super(i, l, ran); }
        @Override int counts(int x) { ran.add(30); return super.counts(x * 5); }
        @Override int ranks(int x) { ran.add(31); return super.ranks(x) + owes(1); }
    }
    static class Free extends Lent {
        Free(int i, int l, List<Integer> ran) { super(i, l, ran); }
        @Override int owes(int x) { ran.add(40); return -super.owes(x); }
        @Override int ranks(int x) { ran.add(41); return super.ranks(x + 7); }
    }
    static class Stopped extends Day {
        Stopped(int i, int l, List<Integer> ran) { super(i, l, ran); }
        @Override int counts(int x) { ran.add(50); return super.counts(x - l); }
    }
    static class Dark extends Day {
        Dark(int i, int l, List<Integer> ran) { super(i, l, ran); }
        @Override int ranks(int x) { ran.add(60); return owes(x) - super.ranks(x); }
    }
    static class Owned extends Paid {
        Owned(int i, int l, List<Integer> ran) { super(i, l, ran); }
        @Override int owes(int x) { ran.add(70); return super.owes(x) + super.counts(2); }
        @Override int ranks(int x) { ran.add(71); return super.ranks(x) * 3; }
    }
    private static final List<Class<? extends Day>> KINDS =
        List.of(Day.class, Paid.class, Lent.class, Free.class, Stopped.class, Dark.class, Owned.class);

    private Day dayOf(int kind, int i, int l) {
        switch (kind) {
            case 1: return new Paid(i, l, trace);
            case 2: return new Lent(i, l, trace);
            case 3: return new Free(i, l, trace);
            case 4: return new Stopped(i, l, trace);
            case 5: return new Dark(i, l, trace);
            case 6: return new Owned(i, l, trace);
            default: return new Day(i, l, trace);
        }
    }

    // ---- what is

    private static final class Lamp implements Cloneable {
        int lot, price, drift, state, home = -5, counter, lent, run, came, roof;
        boolean broken;
        List<Integer> kinds = new ArrayList<>();
        boolean[] taken = new boolean[64];
        List<Integer> took = new ArrayList<>(), sold = new ArrayList<>();
        int owed() { return price - run - counter; }
        void check() { if (state == 1 && owed() <= 0 && lent == 0) state = 4; }
        int low() {
            for (int c = 0; c < 64; c++) if (!taken[c]) return c;
            return 64;
        }
        int dark() {
            int n = 0;
            while (n < kinds.size() && kinds.get(kinds.size() - 1 - n) == 5) n++;
            return n;
        }
        Lamp copy() {
            try {
                Lamp lamp = (Lamp) clone();
                lamp.kinds = new ArrayList<>(kinds);
                return lamp;
            } catch (CloneNotSupportedException e) {
                throw new IllegalStateException(e);
            }
        }
    }
    private record Terms(int day, String[] clauses) { }

    private int today = 0;
    private final List<int[]> places = new ArrayList<>();
    private final List<int[]> coins = new ArrayList<>();
    private List<Lamp> lamps = new ArrayList<>();
    private final List<Terms> texts = new ArrayList<>();
    private final StringBuilder theText = new StringBuilder();
    private final List<int[]> faults = new ArrayList<>(), sales = new ArrayList<>(), messages = new ArrayList<>();
    private List<Integer> trace = new ArrayList<>();
    private final Object[] tapes = new Object[6];

    // ---- texts

    private static final Pattern TEXT = Pattern.compile(textPattern());

    private static String testPattern(int depth) {
        String test = "[olkhmc][<=>][0-9]{1,3}";
        if (depth == 4) return test;
        return "(?:" + test + "|!" + testPattern(depth + 1) + "|\\(" + anyPattern(depth + 1) + "\\))";
    }
    private static String anyPattern(int depth) {
        String test = testPattern(depth);
        String all = test + "(?:&" + test + ")*";
        return all + "(?:\\|" + all + ")*";
    }
    private static String textPattern() {
        String any = anyPattern(0);
        String clause = "(?:sum [0-9]{1,3} [0-9]{1,3}|grace [0-9]{1,3}|run [yn]|(?:fetch|off) " + any + ")";
        return clause + "(?:;" + clause + "){0,7}";
    }

    /** The least place whose byte can't be there; -1: the text is right. */
    static int faultIn(String text) {
        Matcher matcher = TEXT.matcher(text);
        if (matcher.matches()) return -1;
        for (int n = 1; n <= text.length(); n++) {
            Matcher ahead = TEXT.matcher(text.substring(0, n));
            if (!ahead.matches() && !ahead.hitEnd()) return n - 1;
        }
        return text.length();
    }

    private static final String[] WORDS = {"sum", "grace", "run", "fetch", "off"};

    /** The text and clause in force, or null. */
    private int[] ruling(int word, int day, int n) {
        int[] found = null;
        for (int t = 0; t < texts.size(); t++) {
            if (texts.get(t).day > day) continue;
            if (found != null && texts.get(found[0]).day > texts.get(t).day) continue;
            String[] clauses = texts.get(t).clauses;
            int last = -1;
            for (int c = 0; c < clauses.length; c++) {
                String[] parts = clauses[c].split(" ");
                if (parts[0].equals(WORDS[word]) && (word != 0 || Integer.parseInt(parts[1]) == n)) last = c;
            }
            if (last >= 0) found = new int[] {t, last};
        }
        return found;
    }
    private String part(int[] ruling, int part) {
        return texts.get(ruling[0]).clauses[ruling[1]].split(" ")[part];
    }
    private int daysFor(int day, int n) {
        int[] ruling = ruling(0, day, n);
        return ruling == null ? n : Integer.parseInt(part(ruling, 2));
    }
    private int grace(int day) {
        int[] ruling = ruling(1, day, 0);
        return ruling == null ? 0 : Integer.parseInt(part(ruling, 1));
    }
    private boolean runs(int day) {
        int[] ruling = ruling(2, day, 0);
        return ruling != null && part(ruling, 1).equals("y");
    }
    private boolean holds(int word, int day, Lamp lamp) {
        int[] ruling = ruling(word, day, 0);
        return ruling != null && lamp.home >= 0 && met(part(ruling, 1), day, lamp);
    }
    private static int outside(String text, char sign) {
        int depth = 0;
        for (int i = 0; i < text.length(); i++) {
            if (text.charAt(i) == '(') depth++;
            if (text.charAt(i) == ')') depth--;
            if (text.charAt(i) == sign && depth == 0) return i;
        }
        return -1;
    }
    private boolean met(String e, int day, Lamp lamp) {
        int or = outside(e, '|');
        if (or >= 0) return met(e.substring(0, or), day, lamp) | met(e.substring(or + 1), day, lamp);
        int and = outside(e, '&');
        if (and >= 0) return met(e.substring(0, and), day, lamp) & met(e.substring(and + 1), day, lamp);
        if (e.charAt(0) == '!') return !met(e.substring(1), day, lamp);
        if (e.charAt(0) == '(') return met(e.substring(1, e.length() - 1), day, lamp);
        int value = 0;
        if (e.charAt(0) == 'o') value = lamp.owed();
        if (e.charAt(0) == 'l') value = lamp.lent;
        if (e.charAt(0) == 'k') value = lamp.dark();
        if (e.charAt(0) == 'h') value = lamp.home;
        if (e.charAt(0) == 'm') value = day / 30;
        if (e.charAt(0) == 'c') value = coins.get(lamp.home)[day / 30] / 10;
        int number = Integer.parseInt(e.substring(2));
        return e.charAt(1) == '<' ? value < number : e.charAt(1) == '>' ? value > number : value == number;
    }

    // ---- a DAY

    private void goBy(List<Lamp> all, int day) {
        for (Lamp lamp : all) {
            int kind;
            if (lamp.state == 4) kind = 6;
            else if (lamp.state != 1) kind = 0;
            else if (lamp.broken) {
                if (runs(day) && lamp.counter > 0) { lamp.counter--; lamp.run++; }
                kind = 4;
            } else if (lamp.counter > 0) { lamp.counter--; lamp.run++; kind = 1; }
            else if (holds(4, day, lamp)) kind = 3;
            else if (lamp.lent < grace(day)) { lamp.lent++; kind = 2; }
            else kind = 5;
            lamp.kinds.add(kind);
            lamp.check();
        }
    }

    // ---- the calls

    private boolean lampIs(int lamp) { return lamp >= 0 && lamp < lamps.size(); }
    private boolean homeIs(int home) { return home >= 0 && home < places.size(); }
    private static boolean in(long v, long a, long b) { return v >= a && v <= b; }

    int home(int x, int y) {
        if (!in(x, 0, 99) || !in(y, 0, 99)) return BAD;
        if (places.size() == 12) return FULL;
        places.add(new int[] {x, y});
        coins.add(new int[20]);
        return places.size() - 1;
    }
    int month(int home, int month, int c) {
        if (!homeIs(home) || !in(month, 0, 19)) return NONE;
        if (!in(c, 0, 999)) return BAD;
        int before = coins.get(home)[month];
        coins.get(home)[month] = c;
        return before;
    }
    int lamp(int lot, int price, int drift) {
        if (!in(lot, 0, 7) || !in(price, 1, 999) || !in(drift, -9, 9)) return BAD;
        if (lamps.size() == 20) return FULL;
        Lamp lamp = new Lamp();
        lamp.lot = lot;
        lamp.price = price;
        lamp.drift = drift;
        lamp.came = today;
        lamps.add(lamp);
        return lamps.size() - 1;
    }
    int lend(int l, int home) {
        if (!lampIs(l) || !homeIs(home)) return NONE;
        Lamp lamp = lamps.get(l);
        if (lamp.state != 0 && lamp.state != 3) return STATE;
        lamp.state = 1;
        lamp.home = home;
        lamp.broken = false;
        lamp.roof = today;
        lamp.check();
        return 1;
    }
    int move(int l, int how) {
        if (!lampIs(l) || !in(how, 0, 2)) return NONE;
        Lamp lamp = lamps.get(l);
        if (how == 0 && lamp.state == 1 && holds(3, today, lamp)) {
            lamp.state = 3;
            lamp.home = -5;
            return 1;
        }
        if (how == 1 && lamp.state == 1 && lamp.broken) {
            lamp.state = 2;
            return 1;
        }
        if (how == 2 && lamp.state == 2) {
            lamp.state = 1;
            lamp.broken = false;
            lamp.roof = today;
            lamp.check();
            return 1;
        }
        return STATE;
    }
    long of(int l, int what) {
        if (!lampIs(l) || !in(what, 0, 10)) return NO;
        Lamp p = lamps.get(l);
        return new long[] {p.state, p.home, p.counter, p.lent, p.run, p.owed(), p.price, p.broken ? 1 : 0,
            p.low(), p.sold.size(), p.dark()}[what];
    }
    int pass(int n) {
        if (!in(n, 1, 60) || today + n > 599) return BAD;
        for (int i = 0; i < n; i++) goBy(lamps, today++);
        return today;
    }
    int kind(int l, int day) {
        if (!lampIs(l) || !in(day, 0, today - 1)) return NONE;
        int since = day - lamps.get(l).came;
        return since < 0 ? -5 : lamps.get(l).kinds.get(since);
    }
    int days(int l, int from, int to, int k) {
        if (!lampIs(l) || !in(from, 0, today - 1) || !in(to, from, today - 1) || !in(k, 0, 6)) return NONE;
        int n = 0;
        for (int day = from; day <= to; day++) if (taken(l, day, k) >= 0) n++;
        return n;
    }
    int feed(int bytes, int n) {
        if (!in(n, 0, 4)) return BAD;
        if (theText.length() + n > 100) return FULL;
        for (int i = n; i > 0; i--) theText.append((char) ((bytes >>> (i - 1) * 8) & 0xFF));
        return theText.length();
    }
    private String fed() {
        String text = theText.toString();
        theText.setLength(0);
        return text;
    }
    int text(int day) {
        if (!in(day, 0, 599)) return BAD;
        if (texts.size() == 10) return FULL;
        String text = fed();
        int fault = faultIn(text);
        if (fault >= 0) return -10 - fault;
        texts.add(new Terms(day, text.split(";")));
        return texts.size() - 1;
    }
    int force(int word, int day, int which, int n) {
        if (!in(word, 0, 4) || word > 2 && !lampIs(which)) return NONE;
        if (!in(day, 0, 599) || word == 0 && !in(n, 1, 999)) return BAD;
        if (word == 0) return daysFor(day, n);
        if (word == 1) return grace(day);
        if (word == 2) return runs(day) ? 1 : 0;
        return holds(word, day, lamps.get(which)) ? 1 : 0;
    }
    int why(int word, int day, int n) {
        if (!in(word, 0, 4)) return NONE;
        if (!in(day, 0, 599) || word == 0 && !in(n, 1, 999)) return BAD;
        int[] ruling = ruling(word, day, n);
        return ruling == null ? -5 : ruling[0] * 100 + ruling[1];
    }
    private static int reckon(int l, int d, int c) {
        return (7919 * (l + 1) + 131 * d + 17 * c * c + c) % 100000;
    }
    int code(int l, int d, int c) {
        if (!lampIs(l)) return NONE;
        return in(d, 1, 60) && in(c, 0, 63) ? reckon(l, d, c) : BAD;
    }
    int sold(int l, int n) {
        if (!lampIs(l)) return NONE;
        if (!in(n, 1, 999)) return BAD;
        int d = daysFor(today, n);
        if (d < 1 || d > 60) return STATE;
        List<Integer> sold = lamps.get(l).sold;
        if (sold.size() == 64) return FULL;
        sold.add(d);
        return reckon(l, d, sold.size() - 1);
    }
    int take(int l, int x) {
        if (!lampIs(l)) return NONE;
        Lamp lamp = lamps.get(l);
        if (lamp.state != 1) return 0;
        int low = lamp.low();
        for (int c = low; c < 64 && c < low + 8; c++) {
            for (int d = 1; d <= 60; d++) {
                if (lamp.taken[c] || reckon(l, d, c) != x) continue;
                lamp.taken[c] = true;
                lamp.took.add(d);
                lamp.counter += d;
                lamp.check();
                return d;
            }
        }
        return 0;
    }
    int agree(int l) {
        if (!lampIs(l)) return NONE;
        List<Integer> took = lamps.get(l).took, sold = lamps.get(l).sold;
        if (took.size() > sold.size()) return 0;
        int a = took.stream().mapToInt(d -> d).sum();
        return a == sold.subList(0, took.size()).stream().mapToInt(d -> d).sum() ? 1 : 0;
    }
    long drift(int l, int what) {
        if (!lampIs(l) || !in(what, 0, 1)) return NO;
        Lamp lamp = lamps.get(l);
        long off = lamp.state == 1 || lamp.state == 4 ? lamp.drift * (today - lamp.roof) : 0;
        if (what == 0) return off;
        long span = 0;
        while (span * 1440 < Math.abs(off)) span++;
        return span;
    }
    int paid(int l, int n) {
        if (!lampIs(l)) return NONE;
        if (!in(n, 1, 60)) return BAD;
        Lamp lamp = lamps.get(l);
        if (lamp.lent < n) return STATE;
        lamp.lent -= n;
        lamp.check();
        return lamp.lent;
    }
    int roll(int l, int to) {
        if (!lampIs(l) || !lampIs(to)) return NONE;
        if (l == to) return BAD;
        Lamp a = lamps.get(l), b = lamps.get(to);
        int rest = a.owed();
        if (a.state != 1 || rest <= 0 || b.state == 4 || b.price + rest > 9999) return STATE;
        a.price -= rest;
        b.price += rest;
        a.state = 4;
        return rest;
    }
    int can(int home, int month, int what) {
        if (!homeIs(home) || !in(month, 0, 19) || !in(what, 0, 1)) return NONE;
        List<Integer> all = new ArrayList<>();
        if (month > 0) all.add(coins.get(home)[month - 1]);
        for (int other = 0; other < places.size(); other++) {
            boolean alike = other != home;
            for (int m = 0; m < month; m++) {
                if (Math.abs(coins.get(home)[m] - coins.get(other)[m]) > 20) alike = false;
            }
            if (alike) all.add(coins.get(other)[month]);
        }
        if (all.isEmpty()) return -5;
        return all.stream().mapToInt(c -> what == 0 ? -c : c).max().getAsInt() * (what == 0 ? -1 : 1);
    }
    private int coinsOf(List<Integer> row) {
        return row.stream().mapToInt(h -> coins.get(h)[today / 30]).sum();
    }
    private static int compareRows(List<Integer> a, List<Integer> b) {
        for (int i = 0; i < a.size(); i++) {
            if (!a.get(i).equals(b.get(i))) return a.get(i) - b.get(i);
        }
        return 0;
    }
    private void allRows(int homes, int n, List<Integer> row, List<List<Integer>> rows) {
        int minutes = 0, x = 0, y = 0;
        for (int h : row) {
            minutes += Math.abs(places.get(h)[0] - x) + Math.abs(places.get(h)[1] - y);
            x = places.get(h)[0];
            y = places.get(h)[1];
        }
        if (minutes > n) return;
        rows.add(new ArrayList<>(row));
        for (int h = 11; h >= 0; h--) {
            if ((homes & 1 << h) == 0 || row.contains(h)) continue;
            row.add(h);
            allRows(homes, n, row, rows);
            row.remove(row.size() - 1);
        }
    }
    int best(int homes, int n, int i) {
        if (i < -2) return NONE;
        if (!in(homes, 0, (1 << places.size()) - 1) || Integer.bitCount(homes) > 7 || !in(n, 0, 9999)) return BAD;
        List<List<Integer>> rows = new ArrayList<>();
        allRows(homes, n, new ArrayList<>(), rows);
        Comparator<List<Integer>> order = Comparator.comparing(row -> -coinsOf(row));
        order = order.thenComparing(List::size).thenComparing(PlainModel::compareRows);
        List<Integer> best = rows.stream().min(order).get();
        if (i == -1) return coinsOf(best);
        if (i == -2) return best.size();
        return i < best.size() ? best.get(i) : NONE;
    }
    int broke(int l, int part, int hand) {
        if (!lampIs(l) || !in(part, 0, 3) || !in(hand, 0, 3)) return NONE;
        Lamp lamp = lamps.get(l);
        if (lamp.state != 1 || lamp.broken) return STATE;
        if (faults.size() == 12) return FULL;
        lamp.broken = true;
        faults.add(new int[] {part, 4 + lamp.lot, 12 + hand});
        return faults.size();
    }
    int cause() {
        int best = -1;
        for (int bits = 0; bits < 1 << 16; bits++) {
            if (best >= 0 && Integer.bitCount(bits) >= Integer.bitCount(best)) continue;
            boolean all = true;
            for (int[] f : faults) all &= (bits & (1 << f[0] | 1 << f[1] | 1 << f[2])) != 0;
            if (all) best = bits;
        }
        return best;
    }
    int sell(int l, int lender, int from, int to) {
        if (!lampIs(l) || !in(lender, 0, 3)) return NONE;
        if (!in(from, 0, 599) || !in(to, from, 599)) return BAD;
        if (sales.size() == 20) return FULL;
        sales.add(new int[] {l, lender, from, to});
        return sales.size();
    }
    int whose(int l, int day) {
        if (!lampIs(l) || !in(day, 0, 599)) return NONE;
        int owner = -5;
        for (int[] s : sales) if (s[0] == l && in(day, s[2], s[3])) owner = s[1];
        return owner;
    }
    int tried(int bits, int n) {
        if (!in(bits, 0, (1L << lamps.size()) - 1) || !in(n, 1, 60)) return BAD;
        String text = fed();
        int fault = faultIn(text);
        if (fault >= 0) return -10 - fault;
        texts.add(new Terms(today, text.split(";")));
        List<Lamp> beside = new ArrayList<>();
        for (int l = 0; l < lamps.size(); l++) if ((bits >> l & 1) == 1) beside.add(lamps.get(l).copy());
        int lit = 0;
        for (int day = today; day < today + n && day <= 599; day++) {
            goBy(beside, day);
            for (Lamp lamp : beside) if (List.of(1, 2, 3, 6).contains(lamp.kinds.get(lamp.kinds.size() - 1))) lit++;
        }
        texts.remove(texts.size() - 1);
        return lit;
    }
    int hear(int l, int day, int late) {
        if (!lampIs(l)) return NONE;
        if (!in(day, 0, today) || !in(late, 0, 60)) return BAD;
        if (messages.size() == 60) return FULL;
        messages.add(new int[] {l, day, late});
        return messages.size();
    }
    int known(int l, int day) {
        if (!lampIs(l) || !in(day, 0, 599)) return NONE;
        return messages.stream().filter(m -> m[0] == l && m[1] + m[2] <= day).mapToInt(m -> m[1]).max().orElse(-5);
    }
    int act(int l, int day, int act, int x) {
        trace = new ArrayList<>();
        int kind = kind(l, day);
        if (kind < 0 || !in(act, 0, 2)) return 0;
        Day of = dayOf(kind, day, l);
        return act == 0 ? of.counts(x) : act == 1 ? of.owes(x) : of.ranks(x);
    }
    int trace(int i) {
        return in(i, 0, Math.min(20, trace.size()) - 1) ? trace.get(i) : NONE;
    }
    int taken(int l, int day, int k) {
        if (!in(k, 0, 6)) return BAD;
        int kind = kind(l, day);
        if (kind < 0) return -11;
        try {
            KINDS.get(k).cast(dayOf(kind, day, l));
            return kind;
        } catch (ClassCastException e) {
            return -12;
        }
    }
    long list(int tape, int i, int n) {
        if (!in(tape, 0, 5) || !in(n, 1, 20)) return NO;
        if (tapes[tape] != null && !(tapes[tape] instanceof long[])) return NO + 1;
        long sum = 0;
        try {
            long[] row = (long[]) tapes[tape];
            for (int k = 0; k < n; k++) {
                long told = row[Math.addExact(i, k)];
                long l = (told - Math.floorMod(told, 100000L)) / 100000L;
                if (told < Long.MIN_VALUE + 100000) l = -1;
                if (!in(l, 0, lamps.size() - 1)) return sum + 1000000;
                sum += take((int) l, (int) (told % 100000));
            }
        } catch (NullPointerException | IndexOutOfBoundsException e) {
            return sum + 1000000;
        }
        return sum;
    }
    int count(int what) {
        if (!in(what, 0, 8)) return BAD;
        return new int[] {today, places.size(), lamps.size(), texts.size(), theText.length(), faults.size(),
            sales.size(), messages.size(), trace.size()}[what];
    }
    int tape(int tape, int sort, int n) {
        if (!in(tape, 0, 5)) return NONE;
        if (!in(sort, -1, 4) || sort >= 0 && n > 60) return BAD;
        try {
            if (sort == -1) tapes[tape] = null;
            if (sort == 0) tapes[tape] = new byte[n];
            if (sort == 1) tapes[tape] = new short[n];
            if (sort == 2) tapes[tape] = new int[n];
            if (sort == 3) tapes[tape] = new long[n];
            if (sort == 4) tapes[tape] = new boolean[n];
            return 1;
        } catch (NegativeArraySizeException e) {
            return -14;
        }
    }
    int item(int tape, int i, long v) {
        if (!in(tape, 0, 5)) return NONE;
        if (tapes[tape] == null) return -11;
        try {
            if (tapes[tape] instanceof byte[] row) row[i] = (byte) v;
            if (tapes[tape] instanceof short[] row) row[i] = (short) v;
            if (tapes[tape] instanceof int[] row) row[i] = (int) v;
            if (tapes[tape] instanceof long[] row) row[i] = v;
            if (tapes[tape] instanceof boolean[] row) row[i] = v != 0;
            return 1;
        } catch (IndexOutOfBoundsException e) {
            return -13;
        }
    }
    long read(int tape, int i) {
        if (!in(tape, 0, 5) || tapes[tape] == null) return NO;
        try {
            if (tapes[tape] instanceof boolean[] row) return row[i] ? 1 : 0;
            return java.lang.reflect.Array.getLong(tapes[tape], i);
        } catch (IndexOutOfBoundsException e) {
            return NO;
        }
    }
    int shift(int tape, int i, int other, int j, int n) {
        if (!in(tape, 0, 5) || !in(other, 0, 5)) return NONE;
        try {
            System.arraycopy(tapes[tape], i, tapes[other], j, n);
            return n;
        } catch (NullPointerException e) {
            return -11;
        } catch (ArrayStoreException e) {
            return -12;
        } catch (IndexOutOfBoundsException e) {
            return -13;
        }
    }
}
