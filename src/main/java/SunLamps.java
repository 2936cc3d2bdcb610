/**
 * Lamps paid by the day: their DAYS, codes, TERMS, homes, faults, lenders and tapes.
 * The document shared/DOC.md says what each call does and answers.
 */
public final class SunLamps {
    public static final int NONE = -1, BAD = -2, STATE = -3, FULL = -4;
    public static final long NO = Long.MIN_VALUE;

    /** What is answered where nothing stands that could be told: no home, no clause, the house's own. */
    private static final int NOTHING_TOLD = -5;
    /** A FAULT in THE TEXT is answered as this less its place. */
    private static final int FAULT_BASE = -10;
    private static final int NOTHING = -11, CAST = -12, PLACE = -13, SIZE = -14;

    private static final int LAST_DAY = 599, DAYS_KEPT = 600, MOST_DAYS = 60;
    private static final int MONTHS = 20, MONTH_DAYS = 30, MOST_COINS = 999;
    private static final int MOST_HOMES = 12, MOST_LAMPS = 20, LOTS = 8;
    private static final int MOST_PRICE = 999, MOST_ROLLED_PRICE = 9999, MOST_DRIFT = 9, LAST_PLACE = 99;
    private static final int MOST_FAULTS = 12, MOST_SALES = 20, MOST_MESSAGES = 60, MOST_LATE = 60;
    private static final int PARTS = 4, HANDS = 4, CAUSES = 16, LENDERS = 4;
    private static final int TAPES = 6, MOST_LISTED = 20, LIST_BASE = 100000, LIST_ENDED = 1000000;
    private static final int MOST_MINUTES = 9999, DAY_MINUTES = 1440, MOST_VISITS = 7;

    /** The words of CLAUSES, in the order in which force() and why() number them. */
    private static final int SUM = 0, GRACE = 1, RUN = 2, FETCH = 3, OFF = 4;

    private final Home[] homes = new Home[MOST_HOMES];
    private final Lamp[] lamps = new Lamp[MOST_LAMPS];
    private final Tape[] tapes = new Tape[TAPES];
    private final TextReader reader = new TextReader();
    private final Terms terms = new Terms();
    private final Book faults = new Book(MOST_FAULTS);
    private final Book sales = new Book(MOST_SALES);
    private final Book messages = new Book(MOST_MESSAGES);
    private final Acts acts = new Acts();
    private final Agent agent = new Agent();
    private int homeCount;
    private int lampCount;
    private int today;

    public SunLamps() {
        for (int i = 0; i < tapes.length; i++) tapes[i] = new Tape();
    }

    // ---- homes, lamps

    public int home(int x, int y) {
        if (!isWithin(x, 0, LAST_PLACE) || !isWithin(y, 0, LAST_PLACE)) return BAD;
        if (homeCount < 0 || homeCount >= homes.length) return FULL;
        homes[homeCount] = new Home(homeCount, x, y);
        homeCount++;
        return homeCount - 1;
    }

    public int month(int home, int month, int coins) {
        Home of = homeAt(home);
        if (of == null || !isWithin(month, 0, MONTHS - 1)) return NONE;
        if (!isWithin(coins, 0, MOST_COINS)) return BAD;
        int before = of.coinsIn(month);
        of.putCoins(month, coins);
        return before;
    }

    public int lamp(int lot, int price, int drift) {
        if (!isWithin(lot, 0, LOTS - 1) || !isWithin(price, 1, MOST_PRICE)) return BAD;
        if (!isWithin(drift, -MOST_DRIFT, MOST_DRIFT)) return BAD;
        if (lampCount < 0 || lampCount >= lamps.length) return FULL;
        lamps[lampCount] = new Lamp(lampCount, lot, price, drift, today);
        lampCount++;
        return lampCount - 1;
    }

    public int lend(int lamp, int home) {
        Lamp lent = lampAt(lamp);
        Home to = homeAt(home);
        if (lent == null || to == null) return NONE;
        if (lent.state != Lamp.STORE && lent.state != Lamp.FETCHED) return STATE;
        lent.comeOnRoof(to, today);
        return 1;
    }

    public int move(int lamp, int how) {
        Lamp moved = lampAt(lamp);
        if (moved == null) return NONE;
        switch (how) {
            case 0:
                if (moved.state != Lamp.ROOF || !terms.holds(FETCH, moved, today)) return STATE;
                moved.beFetched();
                return 1;
            case 1:
                if (moved.state != Lamp.ROOF || !moved.broken) return STATE;
                moved.state = Lamp.REPAIR;
                return 1;
            case 2:
                if (moved.state != Lamp.REPAIR) return STATE;
                moved.comeOnRoof(moved.home, today);
                return 1;
            default:
                return NONE;
        }
    }

    public long of(int lamp, int what) {
        Lamp of = lampAt(lamp);
        if (of == null) return NO;
        switch (what) {
            case 0: return of.state;
            case 1: return of.home == null ? NOTHING_TOLD : of.home.number;
            case 2: return of.meter.counter;
            case 3: return of.meter.lent;
            case 4: return of.meter.ran;
            case 5: return of.owed();
            case 6: return of.price;
            case 7: return of.broken ? 1 : 0;
            case 8: return of.codes.low();
            case 9: return of.codes.soldCodes;
            case 10: return of.meter.dark;
            default: return NO;
        }
    }

    public int pass(int n) {
        if (!isWithin(n, 1, MOST_DAYS) || n > LAST_DAY - today) return BAD;
        for (int i = 0; i < n; i++) {
            passOneDay();
        }
        return today;
    }

    private void passOneDay() {
        terms.settle(today);
        for (int i = 0; i < lampCount; i++) {
            Lamp lamp = lampAt(i);
            if (lamp == null) continue;
            int kind = terms.goBy(lamp, lamp.meter);
            lamp.keepKind(today, kind);
            // The document tells of it here, too, though a DAY that goes by changes nothing of what is OWED.
            lamp.becomeOwnedIfPaid();
        }
        today++;
    }

    public int kind(int lamp, int day) {
        return kindOf(lampAt(lamp), day);
    }

    public int days(int lamp, int from, int to, int k) {
        Lamp of = lampAt(lamp);
        if (of == null || from < 0 || from > to || to >= today || !Acts.isKind(k)) return NONE;
        int found = 0;
        for (int day = from; day <= to; day++) {
            if (Acts.isUnder(kindOf(of, day), k)) found++;
        }
        return found;
    }

    // ---- terms

    public int feed(int bytes, int n) {
        if (!isWithin(n, 0, 4)) return BAD;
        if (!reader.hasRoomFor(n)) return FULL;
        for (int i = n - 1; i >= 0; i--) {
            reader.append(bytes >> 8 * i & 255);
        }
        return reader.length;
    }

    public int text(int day) {
        if (!isDay(day)) return BAD;
        if (terms.isFull()) return FULL;
        int fault = reader.readInto(terms.draft);
        if (fault >= 0) return FAULT_BASE - fault;
        return terms.keepDraft(day);
    }

    public int force(int word, int day, int which, int coins) {
        Lamp lamp = lampAt(which);
        if (!isWithin(word, SUM, OFF)) return NONE;
        if (word >= FETCH && lamp == null) return NONE;
        if (!isDay(day) || word == SUM && !isSum(coins)) return BAD;
        switch (word) {
            case SUM: return terms.daysFor(day, coins);
            case GRACE: return terms.graceOf(day);
            case RUN: return terms.runOf(day);
            default: return lamp != null && terms.holds(word, lamp, day) ? 1 : 0;
        }
    }

    public int why(int word, int day, int coins) {
        if (!isWithin(word, SUM, OFF)) return NONE;
        if (!isDay(day) || word == SUM && !isSum(coins)) return BAD;
        return terms.rulingOf(word, day, coins);
    }

    // ---- codes, clocks

    public int code(int lamp, int d, int count) {
        if (lampAt(lamp) == null) return NONE;
        if (!isWithin(d, 1, Codes.MOST_CODE_DAYS) || !isWithin(count, 0, Codes.COUNTS - 1)) return BAD;
        return Codes.reckon(lamp, d, count);
    }

    public int sold(int lamp, int coins) {
        Lamp of = lampAt(lamp);
        if (of == null) return NONE;
        if (!isSum(coins)) return BAD;
        int d = terms.daysFor(today, coins);
        if (!isWithin(d, 1, Codes.MOST_CODE_DAYS)) return STATE;
        if (of.codes.isSoldOut()) return FULL;
        return of.codes.addSold(of.number, d);
    }

    public int take(int lamp, int x) {
        Lamp told = lampAt(lamp);
        return told == null ? NONE : told.hearNumber(x);
    }

    public int agree(int lamp) {
        Lamp of = lampAt(lamp);
        if (of == null) return NONE;
        return of.codes.isAsSold() ? 1 : 0;
    }

    public long drift(int lamp, int what) {
        Lamp of = lampAt(lamp);
        if (of == null || !isWithin(what, 0, 1)) return NO;
        int off = of.clockOff(today);
        return what == 0 ? off : (Math.abs(off) + DAY_MINUTES - 1) / DAY_MINUTES;
    }

    // ---- what is owed

    public int paid(int lamp, int n) {
        Lamp of = lampAt(lamp);
        if (of == null) return NONE;
        if (!isWithin(n, 1, MOST_DAYS)) return BAD;
        if (of.meter.lent < n) return STATE;
        of.meter.lent -= n;
        of.becomeOwnedIfPaid();
        return of.meter.lent;
    }

    public int roll(int lamp, int to) {
        Lamp from = lampAt(lamp), other = lampAt(to);
        if (from == null || other == null) return NONE;
        if (lamp == to) return BAD;
        int rest = from.owed();
        if (from.state != Lamp.ROOF || rest <= 0 || other.state == Lamp.OWNED) return STATE;
        if (rest > MOST_ROLLED_PRICE - other.price) return STATE;
        from.price -= rest;
        other.price += rest;
        from.state = Lamp.OWNED;
        return rest;
    }

    public int can(int home, int month, int what) {
        Home of = homeAt(home);
        if (of == null || !isWithin(month, 0, MONTHS - 1) || !isWithin(what, 0, 1)) return NONE;
        int least = MOST_COINS + 1, greatest = -1;
        if (month > 0) {
            least = of.coinsIn(month - 1);
            greatest = least;
        }
        for (int i = 0; i < homeCount; i++) {
            Home other = homeAt(i);
            if (other == null || other == of || !of.isAlike(other, month)) continue;
            least = Math.min(least, other.coinsIn(month));
            greatest = Math.max(greatest, other.coinsIn(month));
        }
        if (greatest < 0) return NOTHING_TOLD;
        return what == 0 ? least : greatest;
    }

    public int best(int homes, int n, int i) {
        if (i < -2) return NONE;
        if (homes >>> homeCount != 0 || Integer.bitCount(homes) > MOST_VISITS) return BAD;
        if (!isWithin(n, 0, MOST_MINUTES)) return BAD;
        agent.forget(today / MONTH_DAYS);
        for (int number = 0; number < homeCount; number++) {
            if ((homes >> number & 1) != 0) agent.mayVisit(homeAt(number));
        }
        agent.lookFor(n);
        if (i == -1) return agent.bestCoins;
        if (i == -2) return agent.bestVisits;
        return i < agent.bestVisits ? valueAt(agent.bestRow, i) : NONE;
    }

    // ---- faults, lenders

    public int broke(int lamp, int part, int hand) {
        Lamp of = lampAt(lamp);
        if (of == null || !isWithin(part, 0, PARTS - 1) || !isWithin(hand, 0, HANDS - 1)) return NONE;
        if (of.state != Lamp.ROOF || of.broken) return STATE;
        if (faults.isFull()) return FULL;
        of.broken = true;
        int causes = 1 << part | 1 << PARTS + of.lot | 1 << PARTS + LOTS + hand;
        return faults.append(lamp, causes, 0, 0);
    }

    public int cause() {
        // All PARTS together are a cause of any FAULTS, so the fewest are never more.
        return fewestCauses(0, (1 << PARTS) - 1, 0);
    }

    /** The best of some CAUSES and of all that have the chosen ones. */
    private int fewestCauses(int chosen, int best, int depth) {
        int open = causesOfFirstOpen(chosen);
        if (open == 0) return isFewer(chosen, best) ? chosen : best;
        if (depth >= PARTS) return best;
        int found = best;
        for (int i = 0; i < CAUSES; i++) {
            if ((open >> i & 1) != 0) found = fewestCauses(chosen | 1 << i, found, depth + 1);
        }
        return found;
    }

    /** The CAUSES of the first FAULT that has none of the chosen ones, as bits; 0: each has one. */
    private int causesOfFirstOpen(int chosen) {
        for (int i = 0; i < faults.size; i++) {
            int causes = faults.cell(i, 1);
            if ((causes & chosen) == 0) return causes;
        }
        return 0;
    }

    private static boolean isFewer(int causes, int than) {
        int less = Integer.bitCount(causes) - Integer.bitCount(than);
        return less < 0 || less == 0 && causes < than;
    }

    public int sell(int lamp, int lender, int from, int to) {
        if (lampAt(lamp) == null || !isWithin(lender, 0, LENDERS - 1)) return NONE;
        if (!isDay(from) || !isDay(to) || from > to) return BAD;
        if (sales.isFull()) return FULL;
        return sales.append(lamp, lender, from, to);
    }

    public int whose(int lamp, int day) {
        if (lampAt(lamp) == null || !isDay(day)) return NONE;
        for (int i = sales.size - 1; i >= 0; i--) {
            boolean isSold = sales.cell(i, 0) == lamp && isWithin(day, sales.cell(i, 2), sales.cell(i, 3));
            if (isSold) return sales.cell(i, 1);
        }
        return NOTHING_TOLD;
    }

    public int tried(int lamps, int n) {
        if (lamps >>> lampCount != 0 || !isWithin(n, 1, MOST_DAYS)) return BAD;
        int fault = reader.readInto(terms.draft);
        if (fault >= 0) return FAULT_BASE - fault;
        terms.tryDraft(today);
        int lit = litDays(lamps, Math.min(LAST_DAY, today + n - 1));
        terms.endTry();
        return lit;
    }

    /** How many DAYS of told LAMPS would be lit up to a last one, on meters beside the LAMPS' own. */
    private int litDays(int told, int last) {
        for (int i = 0; i < lampCount; i++) {
            Lamp lamp = lampAt(i);
            if (lamp != null) lamp.beside.copy(lamp.meter);
        }
        int lit = 0;
        for (int day = today; day <= last; day++) {
            terms.settle(day);
            for (int i = 0; i < lampCount; i++) {
                Lamp lamp = lampAt(i);
                if (lamp == null || (told >> i & 1) == 0) continue;
                if (Acts.isLit(terms.goBy(lamp, lamp.beside))) lit++;
            }
        }
        return lit;
    }

    public int hear(int lamp, int day, int late) {
        if (lampAt(lamp) == null) return NONE;
        if (!isWithin(day, 0, today) || !isWithin(late, 0, MOST_LATE)) return BAD;
        if (messages.isFull()) return FULL;
        return messages.append(lamp, day, day + late, 0);
    }

    public int known(int lamp, int day) {
        if (lampAt(lamp) == null || !isDay(day)) return NONE;
        int greatest = NOTHING_TOLD;
        for (int i = 0; i < messages.size; i++) {
            boolean isKnown = messages.cell(i, 0) == lamp && messages.cell(i, 2) <= day;
            if (isKnown) greatest = Math.max(greatest, messages.cell(i, 1));
        }
        return greatest;
    }

    // ---- acts, tapes

    public int act(int lamp, int day, int act, int x) {
        acts.forget();
        int kind = kindOf(lampAt(lamp), day);
        if (!Acts.isKind(kind) || !isWithin(act, 0, 2)) return 0;
        return acts.perform(lamp, day, kind, act, x);
    }

    public int trace(int i) {
        return i >= 0 && i < Math.min(acts.ran, Acts.KEPT) ? valueAt(acts.bodies, i) : NONE;
    }

    public int taken(int lamp, int day, int k) {
        if (!Acts.isKind(k)) return BAD;
        int kind = kindOf(lampAt(lamp), day);
        if (!Acts.isKind(kind)) return NOTHING;
        return Acts.isUnder(kind, k) ? kind : CAST;
    }

    public long list(int tape, int i, int n) {
        Tape from = tapeAt(tape);
        if (from == null || !isWithin(n, 1, MOST_LISTED)) return NO;
        if (from.sort != Tape.NOTHING_THERE && from.sort != Tape.LONGS) return NO + 1;
        int sum = 0;
        int place = i;
        for (int done = 0; done < n; done++) {
            if (!from.hasPlace(place)) return sum + LIST_ENDED;
            long told = from.itemAt(place);
            place++;
            long number = Math.floorDiv(told, (long) LIST_BASE);
            if (number < 0 || number >= lampCount) return sum + LIST_ENDED;
            Lamp lamp = lampAt((int) number);
            if (lamp != null) sum += lamp.hearNumber((int) Math.floorMod(told, (long) LIST_BASE));
        }
        return sum;
    }

    public int count(int what) {
        switch (what) {
            case 0: return today;
            case 1: return homeCount;
            case 2: return lampCount;
            case 3: return terms.size;
            case 4: return reader.length;
            case 5: return faults.size;
            case 6: return sales.size;
            case 7: return messages.size;
            case 8: return acts.ran;
            default: return BAD;
        }
    }

    public int tape(int tape, int sort, int n) {
        Tape of = tapeAt(tape);
        if (of == null) return NONE;
        if (sort == Tape.NOTHING_THERE) {
            of.become(sort, 0);
            return 1;
        }
        if (!isWithin(sort, Tape.BYTES, Tape.BOOLEANS) || n > Tape.MOST_ITEMS) return BAD;
        if (n < 0) return SIZE;
        of.become(sort, n);
        return 1;
    }

    public int item(int tape, int i, long v) {
        Tape of = tapeAt(tape);
        if (of == null) return NONE;
        if (of.sort == Tape.NOTHING_THERE) return NOTHING;
        if (!of.hasPlace(i)) return PLACE;
        of.putItem(i, v);
        return 1;
    }

    public long read(int tape, int i) {
        Tape of = tapeAt(tape);
        return of == null || !of.hasPlace(i) ? NO : of.itemAt(i);
    }

    public int shift(int tape, int i, int other, int j, int n) {
        Tape from = tapeAt(tape), to = tapeAt(other);
        if (from == null || to == null) return NONE;
        if (from.sort == Tape.NOTHING_THERE || to.sort == Tape.NOTHING_THERE) return NOTHING;
        if (from.sort != to.sort) return CAST;
        if (!from.hasPlaces(i, n) || !to.hasPlaces(j, n)) return PLACE;
        System.arraycopy(from.items, i, to.items, j, n);
        return n;
    }

    // ---- what the calls share

    private static boolean isWithin(int value, int least, int greatest) {
        return value >= least && value <= greatest;
    }

    private static boolean isDay(int day) {
        return isWithin(day, 0, LAST_DAY);
    }

    private static boolean isSum(int coins) {
        return isWithin(coins, 1, MOST_COINS);
    }

    /** A row's value at a place; 0 where there is no such place. */
    private static int valueAt(int[] row, int i) {
        return i >= 0 && i < row.length ? row[i] : 0;
    }

    private Home homeAt(int number) {
        return number >= 0 && number < homeCount && number < homes.length ? homes[number] : null;
    }

    private Lamp lampAt(int number) {
        return number >= 0 && number < lampCount && number < lamps.length ? lamps[number] : null;
    }

    private Tape tapeAt(int number) {
        return number >= 0 && number < tapes.length ? tapes[number] : null;
    }

    /** What kind() answers of a LAMP. */
    private int kindOf(Lamp lamp, int day) {
        if (lamp == null || day < 0 || day >= today) return NONE;
        return day < lamp.born ? NOTHING_TOLD : lamp.kindKept(day);
    }

    /** A HOME at a place, with the COINS of its MONTHS. */
    private static final class Home {
        private static final int ALIKE = 20;

        final int number;
        final int x;
        final int y;
        private final int[] coins = new int[MONTHS];

        Home(int number, int x, int y) {
            this.number = number;
            this.x = x;
            this.y = y;
        }

        int coinsIn(int month) {
            return valueAt(coins, month);
        }

        void putCoins(int month, int now) {
            if (month >= 0 && month < coins.length) coins[month] = now;
        }

        boolean isAlike(Home other, int untilMonth) {
            for (int month = 0; month < untilMonth; month++) {
                if (Math.abs(coinsIn(month) - other.coinsIn(month)) > ALIKE) return false;
            }
            return true;
        }

        int minutesFrom(int fromX, int fromY) {
            return Math.abs(x - fromX) + Math.abs(y - fromY);
        }
    }

    /** What runs in a LAMP as DAYS go by; tried() lets a second one run beside. */
    private static final class Meter {
        int counter;
        int lent;
        int ran;
        int dark;

        void copy(Meter other) {
            counter = other.counter;
            lent = other.lent;
            ran = other.ran;
            dark = other.dark;
        }

        void runOneDay() {
            if (counter <= 0) return;
            counter--;
            ran++;
        }
    }

    /** The codes of a LAMP: those that it took, and those that the HOUSE sold it. */
    private static final class Codes {
        static final int COUNTS = 64, MOST_CODE_DAYS = 60;
        private static final int WINDOW = 8, MODULUS = 100000, PER_DAY = 131;

        private long tookCounts;
        private int tookCodes;
        private int tookDays;
        private final byte[] soldDays = new byte[COUNTS];
        int soldCodes;

        static int reckon(int lamp, int d, int count) {
            return (7919 * (lamp + 1) + PER_DAY * d + 17 * count * count + count) % MODULUS;
        }

        /** The DAYS of a number with a COUNT; 0: it is no such code. */
        private static int daysIn(int lamp, int x, int count) {
            if (!isWithin(x, 0, MODULUS - 1)) return 0;
            int rest = Math.floorMod(x - reckon(lamp, 0, count), MODULUS);
            return rest % PER_DAY == 0 && rest / PER_DAY <= MOST_CODE_DAYS ? rest / PER_DAY : 0;
        }

        int low() {
            return Long.numberOfTrailingZeros(~tookCounts);
        }

        /** The DAYS of a number that is told; its COUNT is taken then. 0: none. */
        int accept(int lamp, int x) {
            int low = low();
            int end = Math.min(low + WINDOW, COUNTS);
            for (int count = low; count < end; count++) {
                if ((tookCounts >> count & 1) != 0) continue;
                int d = daysIn(lamp, x, count);
                if (d == 0) continue;
                tookCounts |= 1L << count;
                tookCodes++;
                tookDays += d;
                return d;
            }
            return 0;
        }

        boolean isSoldOut() {
            return soldCodes < 0 || soldCodes >= soldDays.length;
        }

        /** The code of some DAYS that are sold, with the next COUNT. */
        int addSold(int lamp, int d) {
            if (isSoldOut()) return FULL;
            int count = soldCodes;
            soldDays[count] = (byte) d;
            soldCodes++;
            return reckon(lamp, d, count);
        }

        boolean isAsSold() {
            if (tookCodes > soldCodes) return false;
            int sum = 0;
            for (int i = 0; i < tookCodes && i < soldDays.length; i++) {
                sum += soldDays[i];
            }
            return sum == tookDays;
        }
    }

    /** A LAMP with its meter, its codes, and the KINDS of the DAYS that went by. */
    private static final class Lamp {
        static final int STORE = 0, ROOF = 1, REPAIR = 2, FETCHED = 3, OWNED = 4;

        final int number;
        final int lot;
        final int drift;
        final int born;
        final Meter meter = new Meter();
        final Meter beside = new Meter();
        final Codes codes = new Codes();
        private final byte[] kinds = new byte[DAYS_KEPT];
        int price;
        int state = STORE;
        Home home;
        boolean broken;
        private int roofSince;

        Lamp(int number, int lot, int price, int drift, int born) {
            this.number = number;
            this.lot = lot;
            this.price = price;
            this.drift = drift;
            this.born = born;
        }

        int owed() {
            return owedOn(meter);
        }

        int owedOn(Meter on) {
            return price - on.ran - on.counter;
        }

        void comeOnRoof(Home to, int today) {
            state = ROOF;
            home = to;
            broken = false;
            roofSince = today;
            becomeOwnedIfPaid();
        }

        void beFetched() {
            state = FETCHED;
            home = null;
        }

        void becomeOwnedIfPaid() {
            if (state == ROOF && owed() <= 0 && meter.lent == 0) state = OWNED;
        }

        /** A number is told: the DAYS that the LAMP takes for it. */
        int hearNumber(int x) {
            if (state != ROOF) return 0;
            int d = codes.accept(number, x);
            meter.counter += d;
            becomeOwnedIfPaid();
            return d;
        }

        int clockOff(int today) {
            return state == ROOF || state == OWNED ? drift * (today - roofSince) : 0;
        }

        void keepKind(int day, int kind) {
            if (day >= 0 && day < kinds.length) kinds[day] = (byte) kind;
        }

        int kindKept(int day) {
            return day >= 0 && day < kinds.length ? kinds[day] : NONE;
        }
    }

    /** A text of TERMS: its CLAUSES, and the steps in which their tests are worked. */
    private static final class Text {
        static final int MOST_CLAUSES = 8, MOST_STEPS = 100;
        /** Steps below 0 are signs; a test is its letter, sign and number in one. */
        static final int NOT = -1, AND = -2, OR = -3, NUMBERS = 1000, SIGNS = 3;

        int day;
        int clauses;
        private final int[] words = new int[MOST_CLAUSES];
        /** The n of sum or grace, 1 or 0 of run, the first step of fetch or off. */
        private final int[] firsts = new int[MOST_CLAUSES];
        /** The d of sum, the end of the steps of fetch or off. */
        private final int[] seconds = new int[MOST_CLAUSES];
        private final int[] steps = new int[MOST_STEPS];
        int stepCount;

        void clear() {
            clauses = 0;
            stepCount = 0;
        }

        void addClause(int word, int first, int second) {
            if (clauses < 0 || clauses >= MOST_CLAUSES) return;
            words[clauses] = word;
            firsts[clauses] = first;
            seconds[clauses] = second;
            clauses++;
        }

        void addStep(int step) {
            if (stepCount < 0 || stepCount >= steps.length) return;
            steps[stepCount] = step;
            stepCount++;
        }

        /** The last CLAUSE of a word (of sum: with those coins); NONE. */
        int lastOf(int word, int coins) {
            for (int i = clauses - 1; i >= 0; i--) {
                if (valueAt(words, i) == word && (word != SUM || valueAt(firsts, i) == coins)) return i;
            }
            return NONE;
        }

        int first(int clause) {
            return valueAt(firsts, clause);
        }

        int second(int clause) {
            return valueAt(seconds, clause);
        }

        /** Whether a CLAUSE holds for a LAMP, as a meter tells, in a MONTH; not without a HOME. */
        boolean holds(int clause, Lamp lamp, Meter meter, int month) {
            Home home = lamp.home;
            if (home == null) return false;
            // The bits of a number are the stack: brackets within 4 others are none, so some 11 are in use.
            int stack = 0;
            int end = second(clause);
            for (int i = first(clause); i < end; i++) {
                int step = valueAt(steps, i);
                if (step == NOT) stack ^= 1;
                else if (step == AND) stack = stack >> 1 & (stack | ~1);
                else if (step == OR) stack = stack >> 1 | stack & 1;
                else stack = stack << 1 | (isMet(step, valueOf(step, lamp, meter, home, month)) ? 1 : 0);
            }
            return (stack & 1) != 0;
        }

        private static boolean isMet(int test, int value) {
            int number = test % NUMBERS;
            switch (test / NUMBERS % SIGNS) {
                case 0: return value < number;
                case 1: return value == number;
                default: return value > number;
            }
        }

        private static int valueOf(int test, Lamp lamp, Meter meter, Home home, int month) {
            switch (test / (NUMBERS * SIGNS)) {
                case 0: return lamp.owedOn(meter);
                case 1: return meter.lent;
                case 2: return meter.dark;
                case 3: return home.number;
                case 4: return month;
                default: return home.coinsIn(month) / 10;
            }
        }
    }

    /** THE TEXT, which is fed, and the reading of it. */
    private static final class TextReader {
        private static final int MOST_BYTES = 100, MOST_DIGITS = 3, MOST_DEPTH = 4;

        private final int[] bytes = new int[MOST_BYTES];
        int length;
        private int at;

        boolean hasRoomFor(int n) {
            return n <= MOST_BYTES - length;
        }

        void append(int value) {
            if (length < 0 || length >= bytes.length) return;
            bytes[length] = value;
            length++;
        }

        /**
         * Reads THE TEXT, which is empty then: the FAULT, or NONE. Each step reads a byte only if
         * a text may go on with it, so where reading stops is the FAULT.
         */
        int readInto(Text text) {
            text.clear();
            at = 0;
            boolean isGood = readClause(text);
            for (int i = 1; i < Text.MOST_CLAUSES && isGood && at < length; i++) {
                isGood = skip(';') && readClause(text);
            }
            boolean isWhole = isGood && at == length;
            length = 0;
            return isWhole ? NONE : at;
        }

        private boolean readClause(Text text) {
            switch (peek()) {
                case 's': return skipWord("sum ") && readSum(text);
                case 'g': return skipWord("grace ") && readGrace(text);
                case 'r': return skipWord("run ") && readRun(text);
                case 'f': return skipWord("fetch ") && readTests(text, FETCH);
                case 'o': return skipWord("off ") && readTests(text, OFF);
                default: return false;
            }
        }

        private boolean readSum(Text text) {
            int coins = readNumber();
            if (coins < 0 || !skip(' ')) return false;
            int d = readNumber();
            if (d < 0) return false;
            text.addClause(SUM, coins, d);
            return true;
        }

        private boolean readGrace(Text text) {
            int n = readNumber();
            if (n < 0) return false;
            text.addClause(GRACE, n, 0);
            return true;
        }

        private boolean readRun(Text text) {
            boolean runs = skip('y');
            if (!runs && !skip('n')) return false;
            text.addClause(RUN, runs ? 1 : 0, 0);
            return true;
        }

        private boolean readTests(Text text, int word) {
            int first = text.stepCount;
            if (!readAny(text, 0)) return false;
            text.addClause(word, first, text.stepCount);
            return true;
        }

        /** E: one T or several; depth: how many brackets or ! stand around. */
        private boolean readAny(Text text, int depth) {
            if (!readAll(text, depth)) return false;
            for (int i = 0; i < MOST_BYTES && skip('|'); i++) {
                if (!readAll(text, depth)) return false;
                text.addStep(Text.OR);
            }
            return true;
        }

        /** T: one F or several. */
        private boolean readAll(Text text, int depth) {
            if (!readOne(text, depth)) return false;
            for (int i = 0; i < MOST_BYTES && skip('&'); i++) {
                if (!readOne(text, depth)) return false;
                text.addStep(Text.AND);
            }
            return true;
        }

        /** F: a test, or what ! or brackets stand around. */
        private boolean readOne(Text text, int depth) {
            if (depth < MOST_DEPTH && skip('!')) {
                if (!readOne(text, depth + 1)) return false;
                text.addStep(Text.NOT);
                return true;
            }
            if (depth < MOST_DEPTH && skip('(')) return readAny(text, depth + 1) && skip(')');
            return readTest(text);
        }

        private boolean readTest(Text text) {
            int letter = letterAt();
            if (letter < 0) return false;
            at++;
            int sign = skip('<') ? 0 : skip('=') ? 1 : skip('>') ? 2 : NONE;
            if (sign < 0) return false;
            int number = readNumber();
            if (number < 0) return false;
            text.addStep((letter * Text.SIGNS + sign) * Text.NUMBERS + number);
            return true;
        }

        private int letterAt() {
            switch (peek()) {
                case 'o': return 0;
                case 'l': return 1;
                case 'k': return 2;
                case 'h': return 3;
                case 'm': return 4;
                case 'c': return 5;
                default: return NONE;
            }
        }

        /** A number of 1 to 3 digits; NONE. */
        private int readNumber() {
            int number = NONE;
            for (int i = 0; i < MOST_DIGITS; i++) {
                int digit = peek() - '0';
                if (!isWithin(digit, 0, 9)) break;
                number = i == 0 ? digit : number * 10 + digit;
                at++;
            }
            return number;
        }

        private boolean skipWord(String word) {
            for (int i = 0; i < word.length(); i++) {
                if (!skip(word.charAt(i))) return false;
            }
            return true;
        }

        private boolean skip(char sign) {
            if (peek() != sign) return false;
            at++;
            return true;
        }

        /** The byte to be read next; NONE at the end. */
        private int peek() {
            return at < length && at >= 0 && at < bytes.length ? bytes[at] : NONE;
        }
    }

    /** The texts of TERMS, which of their CLAUSES are in force, and how DAYS go by with them. */
    private static final class Terms {
        private static final int MOST_TEXTS = 10, PER_TEXT = 100;

        private final Text[] texts = new Text[MOST_TEXTS];
        int size;
        /** Takes what is read next; it comes behind the others while it is tried. */
        Text draft = new Text();
        private boolean isTrying;
        private int settledMonth;
        private int grace;
        private int run;
        private Text offText;
        private int offClause;

        boolean isFull() {
            return size < 0 || size >= texts.length;
        }

        int keepDraft(int day) {
            if (isFull()) return FULL;
            draft.day = day;
            texts[size] = draft;
            draft = new Text();
            size++;
            return size - 1;
        }

        void tryDraft(int day) {
            draft.day = day;
            isTrying = true;
        }

        void endTry() {
            isTrying = false;
        }

        private Text textAt(int number) {
            if (number == size && isTrying) return draft;
            return number >= 0 && number < size && number < texts.length ? texts[number] : null;
        }

        /** 100 times the TEXT whose CLAUSE is in force, and the CLAUSE; NOTHING_TOLD. */
        int rulingOf(int word, int day, int coins) {
            int ruling = NOTHING_TOLD;
            int greatest = -1;
            for (int i = 0; i <= size; i++) {
                Text text = textAt(i);
                if (text == null || text.day > day || text.day < greatest) continue;
                int clause = text.lastOf(word, coins);
                if (clause < 0) continue;
                ruling = PER_TEXT * i + clause;
                greatest = text.day;
            }
            return ruling;
        }

        private Text textOf(int ruling) {
            return ruling < 0 ? null : textAt(ruling / PER_TEXT);
        }

        int daysFor(int day, int coins) {
            int ruling = rulingOf(SUM, day, coins);
            Text text = textOf(ruling);
            return text == null ? coins : text.second(ruling % PER_TEXT);
        }

        int graceOf(int day) {
            return numberOf(GRACE, day);
        }

        /** 1: the COUNTER runs while a LAMP is BROKEN; 0: it does not. */
        int runOf(int day) {
            return numberOf(RUN, day);
        }

        private int numberOf(int word, int day) {
            int ruling = rulingOf(word, day, 0);
            Text text = textOf(ruling);
            return text == null ? 0 : text.first(ruling % PER_TEXT);
        }

        boolean holds(int word, Lamp lamp, int day) {
            int ruling = rulingOf(word, day, 0);
            Text text = textOf(ruling);
            return text != null && text.holds(ruling % PER_TEXT, lamp, lamp.meter, day / MONTH_DAYS);
        }

        /** Looks up what all LAMPS share on a DAY, once for all of them. */
        void settle(int day) {
            settledMonth = day / MONTH_DAYS;
            grace = graceOf(day);
            run = runOf(day);
            int ruling = rulingOf(OFF, day, 0);
            offText = textOf(ruling);
            offClause = ruling % PER_TEXT;
        }

        /** The KIND of the settled DAY for a LAMP; the meter, its own or the one beside, runs on. */
        int goBy(Lamp lamp, Meter meter) {
            int kind = runOn(lamp, meter);
            meter.dark = kind == Acts.DARK ? meter.dark + 1 : 0;
            return kind;
        }

        private int runOn(Lamp lamp, Meter meter) {
            if (lamp.state == Lamp.OWNED) return Acts.OWNED;
            if (lamp.state != Lamp.ROOF) return Acts.DAY;
            if (lamp.broken) {
                if (run == 1) meter.runOneDay();
                return Acts.STOPPED;
            }
            if (meter.counter > 0) {
                meter.runOneDay();
                return Acts.PAID;
            }
            if (offText != null && offText.holds(offClause, lamp, meter, settledMonth)) return Acts.FREE;
            if (meter.lent >= grace) return Acts.DARK;
            meter.lent++;
            return Acts.LENT;
        }
    }

    /** The KINDS of DAYS, and the ACTS that they do. */
    private static final class Acts {
        static final int DAY = 0, PAID = 1, LENT = 2, FREE = 3, STOPPED = 4, DARK = 5, OWNED = 6;
        static final int KEPT = 20;
        private static final int COUNTS = 0, OWES = 1, RANKS = 2, SORTS = 3, MOST_DEPTH = 40;
        /** The KIND above each KIND. */
        private static final int[] ABOVE = {NONE, DAY, DAY, LENT, DAY, DAY, PAID};
        /** The body of each KIND for each ACT; 0: none. */
        private static final int[] BODIES = {
            10, 11, 12,
            0, 20, 0,
            30, 0, 31,
            0, 40, 41,
            50, 0, 0,
            0, 0, 60,
            0, 70, 71};

        /** How many bodies ran in the latest act(). */
        int ran;
        final int[] bodies = new int[KEPT];
        private int lamp;
        private int day;
        private int kind;

        static boolean isKind(int kind) {
            return kind >= DAY && kind <= OWNED;
        }

        /** Whether a KIND is another one or under that. */
        static boolean isUnder(int kind, int other) {
            int now = kind;
            for (int i = 0; i < ABOVE.length && isKind(now); i++) {
                if (now == other) return true;
                now = valueAt(ABOVE, now);
            }
            return false;
        }

        static boolean isLit(int kind) {
            return isUnder(kind, PAID) || isUnder(kind, LENT);
        }

        void forget() {
            ran = 0;
        }

        int perform(int ofLamp, int ofDay, int ofKind, int act, int x) {
            lamp = ofLamp;
            day = ofDay;
            kind = ofKind;
            return runFrom(ofKind, act, x, 0);
        }

        /** Runs the body for an ACT of a KIND or, if that has none, of the next one above that has one. */
        private int runFrom(int first, int act, int x, int depth) {
            if (depth > MOST_DEPTH) return 0;
            int at = first;
            for (int i = 0; i < ABOVE.length && isKind(at); i++) {
                int body = valueAt(BODIES, SORTS * at + act);
                if (body != 0) return runBody(body, valueAt(ABOVE, at), x, depth + 1);
                at = valueAt(ABOVE, at);
            }
            return 0;
        }

        private int runBody(int body, int above, int x, int depth) {
            if (ran >= 0 && ran < bodies.length) bodies[ran] = body;
            ran++;
            switch (body) {
                case 10: return x + day;
                case 11: return runFrom(kind, COUNTS, x, depth) - lamp;
                case 12: return runFrom(kind, OWES, x, depth) * 2;
                case 20: return runFrom(above, OWES, x, depth) ^ 3;
                case 30: return runFrom(above, COUNTS, x * 5, depth);
                case 31: return runFrom(above, RANKS, x, depth) + runFrom(kind, OWES, 1, depth);
                case 40: return -runFrom(above, OWES, x, depth);
                case 41: return runFrom(above, RANKS, x + 7, depth);
                case 50: return runFrom(above, COUNTS, x - lamp, depth);
                case 60: return runFrom(kind, OWES, x, depth) - runFrom(above, RANKS, x, depth);
                case 70: return runFrom(above, OWES, x, depth) + runFrom(above, COUNTS, 2, depth);
                case 71: return runFrom(above, RANKS, x, depth) * 3;
                default: return 0;
            }
        }
    }

    /** An AGENT, who looks for the BEST order of HOMES. */
    private static final class Agent {
        private final Home[] told = new Home[MOST_VISITS];
        private int toldCount;
        private int month;
        private final int[] row = new int[MOST_VISITS];
        final int[] bestRow = new int[MOST_VISITS];
        int bestVisits;
        int bestCoins;

        void forget(int nowMonth) {
            toldCount = 0;
            month = nowMonth;
            bestVisits = 0;
            bestCoins = 0;
        }

        /** HOMES are told by rising numbers, so that lesser rows are found first. */
        void mayVisit(Home home) {
            if (toldCount < 0 || toldCount >= told.length) return;
            told[toldCount] = home;
            toldCount++;
        }

        void lookFor(int minutes) {
            goOn(0, 0, 0, 0, minutes, 0);
        }

        /** Goes on from a place in all ways; of rows that are alike good, the first found stays. */
        private void goOn(int visited, int visits, int x, int y, int minutes, int coins) {
            if (coins > bestCoins || coins == bestCoins && visits < bestVisits) keepRow(visits, coins);
            if (visits < 0 || visits >= row.length) return;
            for (int i = 0; i < toldCount && i < told.length; i++) {
                Home home = told[i];
                if (home == null || (visited >> i & 1) != 0) continue;
                int way = home.minutesFrom(x, y);
                if (way > minutes) continue;
                row[visits] = home.number;
                goOn(visited | 1 << i, visits + 1, home.x, home.y, minutes - way, coins + home.coinsIn(month));
            }
        }

        private void keepRow(int visits, int coins) {
            bestVisits = visits;
            bestCoins = coins;
            for (int i = 0; i < visits && i < row.length && i < bestRow.length; i++) {
                bestRow[i] = row[i];
            }
        }
    }

    /** Entries of up to four numbers, as they came, up to a limit. */
    private static final class Book {
        private static final int COLUMNS = 4, MOST_CELLS = 240;

        private final int limit;
        private final int[] cells = new int[MOST_CELLS];
        int size;

        Book(int limit) {
            this.limit = limit;
        }

        boolean isFull() {
            return size >= limit || size >= MOST_CELLS / COLUMNS;
        }

        /** How many entries there are then. */
        int append(int first, int second, int third, int fourth) {
            if (isFull()) return FULL;
            putCell(COLUMNS * size, first);
            putCell(COLUMNS * size + 1, second);
            putCell(COLUMNS * size + 2, third);
            putCell(COLUMNS * size + 3, fourth);
            size++;
            return size;
        }

        private void putCell(int i, int value) {
            if (i >= 0 && i < cells.length) cells[i] = value;
        }

        int cell(int entry, int column) {
            return valueAt(cells, COLUMNS * entry + column);
        }
    }

    /** A TAPE: a row of items of a sort, or nothing. */
    private static final class Tape {
        static final int NOTHING_THERE = -1, BYTES = 0, SHORTS = 1, INTS = 2, LONGS = 3, BOOLEANS = 4;
        static final int MOST_ITEMS = 60;

        int sort = NOTHING_THERE;
        private int length;
        final long[] items = new long[MOST_ITEMS];

        void become(int newSort, int newLength) {
            sort = newSort;
            length = newLength;
            for (int i = 0; i < items.length; i++) {
                items[i] = 0;
            }
        }

        boolean hasPlace(int i) {
            return i >= 0 && i < length && i < items.length;
        }

        boolean hasPlaces(int i, int n) {
            return i >= 0 && n >= 0 && n <= length - i && length <= items.length;
        }

        long itemAt(int i) {
            return i >= 0 && i < items.length ? items[i] : 0;
        }

        void putItem(int i, long v) {
            if (i >= 0 && i < items.length) items[i] = asKept(v);
        }

        private long asKept(long v) {
            switch (sort) {
                case BYTES: return (byte) v;
                case SHORTS: return (short) v;
                case INTS: return (int) v;
                case BOOLEANS: return v != 0 ? 1 : 0;
                default: return v;
            }
        }
    }
}
