import java.util.Random;

/** Random runs of calls, always the same ones: the program must answer each as PlainModel does. */
public final class RandomRunsTest {
    private static final int RUNS = 5000, SHOWN = 5;
    /** A feedCall is 25 calls at most, and a look some 225: so a run stays within the 512 calls of an object. */
    private static final int CALLS = 487, CALLS_AHEAD_OF_LOOK = 260;
    private static final int[] WILD = {-1, 0, 1, -2, 2, 60, 61, 599, 600, 999, 1000, 9999, 10000, 100000,
        Integer.MAX_VALUE, Integer.MIN_VALUE, Integer.MAX_VALUE - 1, -100000, 64, 20, 12, 255, 256, 65536};

    private final Random random;
    private final int run;
    private final boolean isTame;
    private final SunLamps x = new SunLamps();
    private final PlainModel y = new PlainModel();
    private String waiting = "";
    private int calledHere = 0;
    private static int wrong = 0;
    private static long called = 0;

    private RandomRunsTest(int run) {
        this.run = run;
        random = new Random(run * 7919L + 1);
        isTame = run % 4 != 0;
    }

    public static void main(String[] args) {
        for (int run = 0; run < RUNS && wrong < SHOWN; run++) new RandomRunsTest(run).go();
        System.out.println("RandomRunsTest: " + called + " calls, " + wrong + " wrong");
        if (wrong != 0 || called == 0) System.exit(1);
    }

    private void go() {
        boolean isLooking = random.nextBoolean();
        int most = isLooking ? CALLS_AHEAD_OF_LOOK : CALLS;
        while (calledHere < most) {
            int sort = calledHere < 20 && isTame ? calledHere % 3 : random.nextInt(46);
            if (!callOne(sort)) return;
        }
        if (isLooking) look();
        if (calledHere > Script.MOST_CALLS) same("calls of run " + run, calledHere, Script.MOST_CALLS);
    }

    private boolean same(String call, long got, long want) {
        called++;
        calledHere++;
        if (got == want) return true;
        wrong++;
        System.out.println("run " + run + ": " + call + " answered " + got + ", the plain model " + want);
        return false;
    }

    // ---- numbers: mostly as a call wants them, at times anything

    private int num(int least, int greatest) {
        int kind = random.nextInt(isTame ? 60 : 14);
        if (kind == 0) return WILD[random.nextInt(WILD.length)];
        if (kind == 1) return random.nextBoolean() ? least - 1 : greatest + 1;
        if (kind == 2) return random.nextBoolean() ? least : greatest;
        return least + random.nextInt(greatest - least + 1);
    }
    private int aLamp() { return num(0, Math.max(0, y.count(2) - 1)); }
    private int aHome() { return num(0, Math.max(0, y.count(1) - 1)); }
    private int pastDay() { return num(0, Math.max(0, y.count(0) - 1)); }
    private int nearDay() {
        int today = y.count(0);
        return random.nextInt(4) == 0 ? num(0, 599) : num(Math.max(0, today - 10), Math.min(599, today + 10));
    }

    private boolean callOne(int sort) {
        switch (sort) {
            case 0: case 3: return aHomeCall();
            case 1: case 4: return aLampCall();
            case 2: case 5: case 6: return lendCall();
            case 7: case 8: return monthCall();
            case 9: case 10: return moveCall();
            case 11: case 12: return ofCall();
            case 13: case 14: case 15: return passCall();
            case 16: return kindCall();
            case 17: return daysCall();
            case 18: case 19: case 20: case 21: return feedCall();
            case 22: return textCall();
            case 23: return forceCall();
            case 24: return whyCall();
            case 25: return codeCall();
            case 26: return soldCall();
            case 27: case 28: case 29: return takeCall();
            case 30: return agreeCall();
            case 31: return driftCall();
            case 32: return paidCall();
            case 33: return rollCall();
            case 34: return canCall();
            case 35: return bestCall();
            case 36: case 37: return brokeCall();
            case 38: return lenderCall();
            case 39: return triedCall();
            case 40: return messageCall();
            case 41: return actCall();
            case 42: return takenCall();
            case 43: return tapeCall();
            case 44: return listCall();
            default: return itemCall();
        }
    }

    private boolean aHomeCall() {
        int a = num(0, isTame ? 20 : 99), b = num(0, isTame ? 20 : 99);
        return same("home(" + a + ", " + b + ")", x.home(a, b), y.home(a, b));
    }
    private boolean aLampCall() {
        int lot = num(0, 7), price = random.nextInt(3) > 0 ? num(1, 40) : num(1, 999), drift = num(-9, 9);
        return same("lamp(" + lot + ", " + price + ", " + drift + ")", x.lamp(lot, price, drift), y.lamp(lot, price, drift));
    }
    private boolean lendCall() {
        int lamp = aLamp(), home = aHome();
        return same("lend(" + lamp + ", " + home + ")", x.lend(lamp, home), y.lend(lamp, home));
    }
    private boolean monthCall() {
        int home = aHome(), month = random.nextBoolean() ? num(0, 19) : num(0, 2);
        int coins = random.nextBoolean() ? num(0, 60) : num(0, 999);
        return same("month(" + home + ", " + month + ", " + coins + ")", x.month(home, month, coins), y.month(home, month, coins));
    }
    private boolean moveCall() {
        int lamp = aLamp(), how = num(0, 2);
        return same("move(" + lamp + ", " + how + ")", x.move(lamp, how), y.move(lamp, how));
    }
    private boolean ofCall() {
        int lamp = aLamp(), what = num(0, 10);
        return same("of(" + lamp + ", " + what + ")", x.of(lamp, what), y.of(lamp, what));
    }
    private boolean passCall() {
        int n = random.nextInt(run % 5 == 0 ? 3 : 12) == 0 ? num(1, 60) : num(1, 5);
        return same("pass(" + n + ")", x.pass(n), y.pass(n));
    }
    private boolean kindCall() {
        int lamp = aLamp(), day = pastDay();
        return same("kind(" + lamp + ", " + day + ")", x.kind(lamp, day), y.kind(lamp, day));
    }
    private boolean daysCall() {
        int lamp = aLamp(), from = pastDay(), to = pastDay(), k = num(0, 6);
        return same("days(" + lamp + ", " + from + ", " + to + ", " + k + ")", x.days(lamp, from, to, k), y.days(lamp, from, to, k));
    }

    // ---- texts

    private String number() {
        String digits = "" + random.nextInt(random.nextInt(3) == 0 ? 1000 : 12);
        return random.nextInt(12) == 0 && digits.length() < 3 ? "0" + digits : digits;
    }
    private String one(int depth) {
        int kind = random.nextInt(depth < 4 ? 6 : 40);
        if (kind == 0) return "!" + one(depth + 1);
        if (kind == 1 && depth < 6) return "(" + any(depth + 1) + ")";
        char letter = "olkhmc".charAt(random.nextInt(6)), sign = "<=>".charAt(random.nextInt(3));
        String small = "" + random.nextInt(letter == 'o' ? 40 : 5);
        return "" + letter + sign + (random.nextInt(8) == 0 ? number() : small);
    }
    private String any(int depth) {
        StringBuilder text = new StringBuilder(one(depth));
        while (random.nextInt(5) < 2 && text.length() < 40) text.append(random.nextBoolean() ? '|' : '&').append(one(depth));
        return text.toString();
    }
    private String clause() {
        switch (random.nextInt(6)) {
            case 0: return "sum " + (1 + random.nextInt(9)) + " " + number();
            case 1: return "grace " + number();
            case 2: return random.nextBoolean() ? "run y" : "run n";
            case 3: return "fetch " + any(0);
            default: return "off " + any(0);
        }
    }
    private String someText() {
        StringBuilder text = new StringBuilder(clause());
        while (random.nextInt(5) < 3) text.append(';').append(clause());
        if (random.nextInt(4) == 0) {
            int at = random.nextInt(text.length());
            String signs = "sumgracefetchoffrun;  0123456789()!&|<=>olkhmc\u00ff";
            int kind = random.nextInt(3);
            if (kind == 0) text.setLength(at);
            if (kind == 1) text.setCharAt(at, signs.charAt(random.nextInt(signs.length())));
            if (kind == 2) text.insert(at, signs.charAt(random.nextInt(signs.length())));
        }
        return text.toString();
    }
    private boolean feedPart() {
        int n = Math.min(4, waiting.length()), bytes = random.nextInt();
        for (int i = 0; i < n; i++) bytes = bytes << 8 | waiting.charAt(i);
        waiting = waiting.substring(n);
        return same("feed(" + bytes + ", " + n + ")", x.feed(bytes, n), y.feed(bytes, n));
    }
    private boolean feedCall() {
        if (random.nextInt(40) == 0) {
            int bytes = random.nextInt(), n = num(0, 4);
            return same("feed(" + bytes + ", " + n + ")", x.feed(bytes, n), y.feed(bytes, n));
        }
        if (waiting.isEmpty() && y.count(4) == 0) waiting = someText();
        int calls = 1 + random.nextInt(25);
        for (int i = 0; i < calls && !waiting.isEmpty(); i++) if (!feedPart()) return false;
        return true;
    }
    private boolean textCall() {
        int day = nearDay();
        return same("text(" + day + ")", x.text(day), y.text(day));
    }
    private boolean forceCall() {
        int word = num(0, 4), day = nearDay(), which = aLamp(), coins = num(1, 12);
        return same("force(" + word + ", " + day + ", " + which + ", " + coins + ")",
            x.force(word, day, which, coins), y.force(word, day, which, coins));
    }
    private boolean whyCall() {
        int word = num(0, 4), day = nearDay(), coins = num(1, 12);
        return same("why(" + word + ", " + day + ", " + coins + ")", x.why(word, day, coins), y.why(word, day, coins));
    }
    private boolean triedCall() {
        int count = y.count(2), n = num(1, 60);
        int lamps = random.nextInt(10) == 0 ? num(0, 99) : random.nextInt(1 << count);
        return same("tried(" + lamps + ", " + n + ")", x.tried(lamps, n), y.tried(lamps, n));
    }

    // ---- codes, clocks, what is owed

    private int aCode(int lamp) {
        int low = (int) Math.max(0, y.of(lamp, 8));
        int code = y.code(lamp, 1 + random.nextInt(random.nextInt(3) == 0 ? 60 : 6), low + random.nextInt(9));
        return random.nextInt(12) == 0 ? code + 100000 * (random.nextInt(3) - 1) : code;
    }
    private boolean codeCall() {
        int lamp = aLamp(), d = num(1, 60), count = num(0, 63);
        return same("code(" + lamp + ", " + d + ", " + count + ")", x.code(lamp, d, count), y.code(lamp, d, count));
    }
    private boolean soldCall() {
        int lamp = aLamp(), coins = num(1, 12);
        int code = x.sold(lamp, coins);
        boolean isSame = same("sold(" + lamp + ", " + coins + ")", code, y.sold(lamp, coins));
        if (!isSame || random.nextInt(3) == 0) return isSame;
        return same("take(" + lamp + ", " + code + ")", x.take(lamp, code), y.take(lamp, code));
    }
    private boolean takeCall() {
        int lamp = aLamp(), number = random.nextInt(15) == 0 ? num(0, 99999) : aCode(lamp);
        return same("take(" + lamp + ", " + number + ")", x.take(lamp, number), y.take(lamp, number));
    }
    private boolean agreeCall() {
        int lamp = aLamp();
        return same("agree(" + lamp + ")", x.agree(lamp), y.agree(lamp));
    }
    private boolean driftCall() {
        int lamp = aLamp(), what = num(0, 1);
        return same("drift(" + lamp + ", " + what + ")", x.drift(lamp, what), y.drift(lamp, what));
    }
    private boolean paidCall() {
        int lamp = aLamp(), n = random.nextInt(4) == 0 ? num(1, 60) : (int) Math.max(1, y.of(lamp, 3));
        return same("paid(" + lamp + ", " + n + ")", x.paid(lamp, n), y.paid(lamp, n));
    }
    private boolean rollCall() {
        int lamp = aLamp(), to = aLamp();
        if (random.nextInt(3) > 0) return true;
        return same("roll(" + lamp + ", " + to + ")", x.roll(lamp, to), y.roll(lamp, to));
    }
    private boolean canCall() {
        int home = aHome(), month = random.nextBoolean() ? num(0, 19) : num(0, 2), what = num(0, 1);
        return same("can(" + home + ", " + month + ", " + what + ")", x.can(home, month, what), y.can(home, month, what));
    }
    private boolean bestCall() {
        int homes = random.nextInt(1 << y.count(1)), n = num(0, 60), i = num(-2, 4);
        // The plain model writes down all rows, which are many with all seven.
        if (Integer.bitCount(homes) > 5 && random.nextInt(10) > 0) homes &= random.nextInt();
        homes &= 0xFFF;
        if (random.nextInt(20) == 0) homes = num(0, 4095);
        return same("best(" + homes + ", " + n + ", " + i + ")", x.best(homes, n, i), y.best(homes, n, i));
    }

    // ---- faults, lenders, messages

    private boolean brokeCall() {
        int lamp = aLamp(), part = num(0, 3), hand = num(0, 3);
        if (!same("broke(" + lamp + ", " + part + ", " + hand + ")", x.broke(lamp, part, hand), y.broke(lamp, part, hand))) return false;
        return random.nextInt(3) > 0 || same("cause()", x.cause(), y.cause());
    }
    private boolean lenderCall() {
        int lamp = aLamp(), lender = num(0, 3), from = nearDay(), to = random.nextBoolean() ? nearDay() : from + num(0, 9);
        if (random.nextInt(3) > 0) return same("whose(" + lamp + ", " + from + ")", x.whose(lamp, from), y.whose(lamp, from));
        return same("sell(" + lamp + ", " + lender + ", " + from + ", " + to + ")",
            x.sell(lamp, lender, from, to), y.sell(lamp, lender, from, to));
    }
    private boolean messageCall() {
        int lamp = aLamp(), day = nearDay(), late = num(0, 60);
        if (random.nextInt(3) == 0) return same("known(" + lamp + ", " + day + ")", x.known(lamp, day), y.known(lamp, day));
        return same("hear(" + lamp + ", " + day + ", " + late + ")", x.hear(lamp, day, late), y.hear(lamp, day, late));
    }

    // ---- acts, tapes

    private boolean actCall() {
        int lamp = aLamp(), day = pastDay(), act = num(0, 2), v = random.nextBoolean() ? random.nextInt() : num(-9, 9);
        String call = "act(" + lamp + ", " + day + ", " + act + ", " + v + ")";
        if (!same(call, x.act(lamp, day, act, v), y.act(lamp, day, act, v))) return false;
        int i = num(0, 10);
        return same("count(8)", x.count(8), y.count(8)) && same("trace(" + i + ")", x.trace(i), y.trace(i));
    }
    private boolean takenCall() {
        int lamp = aLamp(), day = pastDay(), k = num(0, 6);
        return same("taken(" + lamp + ", " + day + ", " + k + ")", x.taken(lamp, day, k), y.taken(lamp, day, k));
    }
    private boolean tapeCall() {
        int tape = num(0, 5), sort = random.nextInt(3) == 0 ? 3 : num(-1, 4), n = random.nextBoolean() ? num(0, 60) : num(3, 9);
        return same("tape(" + tape + ", " + sort + ", " + n + ")", x.tape(tape, sort, n), y.tape(tape, sort, n));
    }
    private long anItem() {
        int lamp = aLamp();
        switch (random.nextInt(6)) {
            case 0: return random.nextLong();
            case 1: return num(-9, 9);
            case 2: return random.nextInt() / 1000;
            default: return lamp * 100000L + aCode(lamp);
        }
    }
    private boolean listCall() {
        int tape = num(0, 5), i = num(0, 5), n = num(1, 20);
        if (y.read(tape, 1) != Long.MIN_VALUE) {
            for (int k = 0; k < 5; k++) {
                long v = anItem();
                if (!same("item(" + tape + ", " + (i + k) + ", " + v + ")", x.item(tape, i + k, v), y.item(tape, i + k, v))) return false;
            }
        }
        return same("list(" + tape + ", " + i + ", " + n + ")", x.list(tape, i, n), y.list(tape, i, n));
    }
    private boolean itemCall() {
        int tape = num(0, 5), i = num(0, 8), other = num(0, 5), j = num(0, 8), n = num(0, 6);
        long v = anItem();
        if (!same("item(" + tape + ", " + i + ", " + v + ")", x.item(tape, i, v), y.item(tape, i, v))) return false;
        if (random.nextBoolean()) return same("read(" + tape + ", " + i + ")", x.read(tape, i), y.read(tape, i));
        return same("shift(" + tape + ", " + i + ", " + other + ", " + j + ", " + n + ")",
            x.shift(tape, i, other, j, n), y.shift(tape, i, other, j, n));
    }

    /** At the end both are looked at in one of the ways. */
    private void look() {
        Look a = Look.at(x, run % Look.LOOKS), b = Look.at(y, run % Look.LOOKS);
        String difference = Look.difference(a, b);
        called += a.answers.size();
        calledHere += a.answers.size();
        if (difference == null) return;
        wrong++;
        System.out.println("run " + run + ", at the end: " + difference);
    }
}
