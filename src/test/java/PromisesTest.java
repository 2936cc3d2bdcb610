/** Each promise of the document: ordinary calls, the edges that it names, and wrong calls. */
public final class PromisesTest {
    private static final long NO = Long.MIN_VALUE;
    private static final Checks checks = new Checks();

    public static void main(String[] args) {
        newObject();
        homes();
        months();
        lamps();
        lending();
        moving();
        stateOf();
        passing();
        kinds();
        countsOfDays();
        feeding();
        texts();
        faultPlaces();
        depths();
        forced();
        forcedTests();
        reasons();
        codes();
        selling();
        taking();
        agreeing();
        drifting();
        paying();
        rolling();
        canPay();
        bestWay();
        breaking();
        causes();
        lenders();
        trying();
        tryingAtTheEnd();
        hearing();
        acting();
        actBodies();
        tracing();
        takenKinds();
        lists();
        counting();
        tapes();
        items();
        shifting();
        checks.end("PromisesTest");
    }

    private static void due(String call, long got, long want) {
        checks.due(call, got, want);
    }

    private static int feedAll(SunLamps x, String text) {
        int last = x.count(4);
        for (int i = 0; i < text.length(); i++) last = x.feed(text.charAt(i), 1);
        return last;
    }

    private static int textFrom(SunLamps x, int day, String text) {
        feedAll(x, text);
        return x.text(day);
    }

    /** Two homes, and lamp 0 on the roof of home 0. */
    private static SunLamps withLamp(int price, int drift) {
        SunLamps x = new SunLamps();
        x.home(1, 2);
        x.home(3, 4);
        x.lamp(5, price, drift);
        x.lend(0, 0);
        return x;
    }

    /** Lets a lamp take d days with a count. */
    private static int takeDays(SunLamps x, int lamp, int d, int count) {
        return x.take(lamp, x.code(lamp, d, count));
    }

    private static void newObject() {
        SunLamps x = new SunLamps();
        for (int what = 0; what <= 8; what++) due("new: count(" + what + ")", x.count(what), 0);
        due("new: of(0, 0)", x.of(0, 0), NO);
        due("new: month(0, 0, 0)", x.month(0, 0, 0), -1);
        due("new: cause()", x.cause(), 0);
        due("new: trace(0)", x.trace(0), -1);
        for (int tape = 0; tape < 6; tape++) due("new: read", x.read(tape, 0), NO);
        due("NONE", SunLamps.NONE, -1);
        due("BAD", SunLamps.BAD, -2);
        due("STATE", SunLamps.STATE, -3);
        due("FULL", SunLamps.FULL, -4);
        due("NO", SunLamps.NO, NO);
    }

    private static void homes() {
        SunLamps x = new SunLamps();
        due("home(-1, 0)", x.home(-1, 0), -2);
        due("home(0, -1)", x.home(0, -1), -2);
        due("home(100, 0)", x.home(100, 0), -2);
        due("home(0, 100)", x.home(0, 100), -2);
        for (int i = 0; i < 12; i++) due("home " + i, x.home(99 - i, i * 9), i);
        due("home: full", x.home(0, 0), -4);
        due("home: bad ahead of full", x.home(0, 100), -2);
        due("homes", x.count(1), 12);
    }

    private static void months() {
        SunLamps x = withLamp(5, 0);
        due("month(0, 19, 999)", x.month(0, 19, 999), 0);
        due("month(0, 19, 0)", x.month(0, 19, 0), 999);
        due("month(0, 0, 7)", x.month(0, 0, 7), 0);
        due("month(0, 19, 5)", x.month(0, 19, 5), 0);
        due("month of the other home", x.month(1, 0, 3), 0);
        due("month(2, ..)", x.month(2, 0, 3), -1);
        due("month(-1, ..)", x.month(-1, 0, 3), -1);
        due("month 20", x.month(0, 20, 3), -1);
        due("month -1", x.month(0, -1, 1000), -1);
        due("coins 1000", x.month(0, 0, 1000), -2);
        due("coins -1", x.month(0, 0, -1), -2);
        due("a bad month() changed nothing", x.month(0, 0, 8), 7);
    }

    private static void lamps() {
        SunLamps x = new SunLamps();
        due("lot -1", x.lamp(-1, 1, 0), -2);
        due("lot 8", x.lamp(8, 1, 0), -2);
        due("price 0", x.lamp(0, 0, 0), -2);
        due("price 1000", x.lamp(0, 1000, 0), -2);
        due("drift -10", x.lamp(0, 1, -10), -2);
        due("drift 10", x.lamp(0, 1, 10), -2);
        for (int i = 0; i < 20; i++) due("lamp " + i, x.lamp(i % 8, i == 0 ? 999 : 1, i % 2 == 0 ? 9 : -9), i);
        due("lamp: full", x.lamp(0, 1, 0), -4);
        due("lamp: bad ahead of full", x.lamp(0, 0, 0), -2);
        due("in store", x.of(19, 0), 0);
        due("its price", x.of(0, 6), 999);
        due("it owes", x.of(0, 5), 999);
        due("no home", x.of(0, 1), -5);
        due("lamps", x.count(2), 20);
    }

    private static void lending() {
        SunLamps x = withLamp(5, 3);
        due("on the roof", x.of(0, 0), 1);
        due("its home", x.of(0, 1), 0);
        due("lend again", x.lend(0, 1), -3);
        due("lend(1, 0)", x.lend(1, 0), -1);
        due("lend(0, 2)", x.lend(0, 2), -1);
        due("lend(-1, 0)", x.lend(-1, 0), -1);
        due("lend(0, -1)", x.lend(0, -1), -1);
        x.broke(0, 0, 0);
        x.move(0, 1);
        due("lend from repair", x.lend(0, 1), -3);
        x.move(0, 2);
        takeDays(x, 0, 2, 0);
        x.pass(1);
        textFrom(x, 0, "fetch m<20");
        x.broke(0, 0, 0);
        due("fetch", x.move(0, 0), 1);
        due("lend to another home", x.lend(0, 1), 1);
        due("the other home", x.of(0, 1), 1);
        due("not broken", x.of(0, 7), 0);
        due("counter stays", x.of(0, 2), 1);
        due("run stays", x.of(0, 4), 1);
        due("counts stay", x.of(0, 8), 1);
        takeDays(x, 0, 3, 1);
        due("owned", x.of(0, 0), 4);
        due("lend an owned one", x.lend(0, 0), -3);
    }

    private static void moving() {
        SunLamps x = withLamp(5, 0);
        due("move(1, 0)", x.move(1, 0), -1);
        due("move(0, 3)", x.move(0, 3), -1);
        due("move(0, -1)", x.move(0, -1), -1);
        due("no terms: none is fetched", x.move(0, 0), -3);
        due("not broken: no repair", x.move(0, 1), -3);
        due("not in repair", x.move(0, 2), -3);
        x.broke(0, 1, 1);
        due("to repair", x.move(0, 1), 1);
        due("in repair", x.of(0, 0), 2);
        due("of that home still", x.of(0, 1), 0);
        due("in repair already", x.move(0, 1), -3);
        textFrom(x, 2, "fetch h=0&o=5");
        due("fetch from repair", x.move(0, 0), -3);
        due("back", x.move(0, 2), 1);
        due("back on the roof", x.of(0, 0), 1);
        due("back not broken", x.of(0, 7), 0);
        due("terms not in force yet", x.move(0, 0), -3);
        x.pass(2);
        due("terms in force", x.move(0, 0), 1);
        due("fetched", x.of(0, 0), 3);
        due("fetched has no home", x.of(0, 1), -5);
        due("fetched once", x.move(0, 0), -3);
        due("fetched can't be repaired", x.move(0, 1), -3);
        x.lend(0, 1);
        due("the home of the test is the new one", x.move(0, 0), -3);

        // LENT that is paid while it is in REPAIR: it is OWNED as it comes back.
        SunLamps y = withLamp(2, 0);
        textFrom(y, 0, "grace 1;run y;fetch l=1");
        y.pass(1);
        takeDays(y, 0, 2, 0);
        due("lent keeps it from being owned", y.of(0, 0), 1);
        y.broke(0, 0, 0);
        y.move(0, 1);
        due("paid in repair", y.paid(0, 1), 0);
        due("still in repair", y.of(0, 0), 2);
        due("comes back owned", y.move(0, 2), 1);
        due("owned", y.of(0, 0), 4);
        due("owned ones aren't fetched", y.move(0, 0), -3);

        SunLamps z = withLamp(2, 0);
        textFrom(z, 0, "grace 1;fetch l=1");
        z.pass(1);
        takeDays(z, 0, 2, 0);
        due("fetched with all bought", z.move(0, 0), 1);
        z.paid(0, 1);
        due("paid when fetched", z.of(0, 0), 3);
        z.pass(3);
        due("lent owned at once", z.lend(0, 1), 1);
        due("owned as it comes", z.of(0, 0), 4);
        due("owned of the new home", z.of(0, 1), 1);
    }

    private static void stateOf() {
        SunLamps x = withLamp(50, -4);
        textFrom(x, 0, "grace 1");
        x.pass(3);
        x.sold(0, 3);
        takeDays(x, 0, 7, 0);
        takeDays(x, 0, 8, 2);
        x.pass(2);
        x.broke(0, 2, 2);
        long[] want = {1, 0, 13, 1, 2, 35, 50, 1, 1, 1, 0};
        for (int what = 0; what < want.length; what++) due("of(0, " + what + ")", x.of(0, what), want[what]);
        due("of(0, 11)", x.of(0, 11), NO);
        due("of(0, -1)", x.of(0, -1), NO);
        due("of(1, 0)", x.of(1, 0), NO);
        due("of(-1, 0)", x.of(-1, 0), NO);
        SunLamps y = withLamp(50, 0);
        y.pass(4);
        due("dark days", y.of(0, 10), 4);
        takeDays(y, 0, 1, 0);
        due("dark days until a day goes by", y.of(0, 10), 4);
        y.pass(1);
        due("no dark days", y.of(0, 10), 0);
        y.pass(2);
        due("dark days anew", y.of(0, 10), 2);
    }

    private static void passing() {
        SunLamps x = new SunLamps();
        due("pass(0)", x.pass(0), -2);
        due("pass(-1)", x.pass(-1), -2);
        due("pass(61)", x.pass(61), -2);
        for (int i = 1; i <= 9; i++) due("pass(60)", x.pass(60), 60 * i);
        due("beyond 599", x.pass(60), -2);
        due("nothing went by", x.count(0), 540);
        due("up to 599", x.pass(59), 599);
        due("behind the last", x.pass(1), -2);
        due("max", x.pass(Integer.MAX_VALUE), -2);

        // All KINDS of a DAY.
        SunLamps y = withLamp(60, 0);
        textFrom(y, 0, "grace 2;off m=0&k=2");
        textFrom(y, 12, "run y");
        y.pass(1);
        due("lent", y.kind(0, 0), 2);
        due("lent days", y.of(0, 3), 1);
        takeDays(y, 0, 3, 0);
        y.pass(2);
        due("paid", y.kind(0, 1), 1);
        due("counter runs", y.of(0, 2), 1);
        due("run", y.of(0, 4), 2);
        due("owed stays", y.of(0, 5), 57);
        y.pass(2);
        due("lent again", y.kind(0, 4), 2);
        y.pass(3);
        due("dark 1", y.kind(0, 5), 5);
        due("dark 2", y.kind(0, 6), 5);
        due("free behind two dark ones", y.kind(0, 7), 3);
        y.pass(1);
        due("dark behind a free one", y.kind(0, 8), 5);
        takeDays(y, 0, 4, 1);
        y.broke(0, 0, 0);
        y.pass(3);
        due("stopped, run n", y.kind(0, 9), 4);
        due("nothing is less", y.of(0, 2), 4);
        y.pass(6);
        due("stopped, run y", y.kind(0, 12), 4);
        due("stopped with counter 0", y.kind(0, 17), 4);
        due("run out while stopped", y.of(0, 2), 0);
        due("ran while stopped", y.of(0, 4), 7);
        y.move(0, 1);
        y.pass(1);
        due("in repair", y.kind(0, 18), 0);
    }

    private static void kinds() {
        SunLamps x = new SunLamps();
        x.home(0, 0);
        x.pass(3);
        x.lamp(0, 5, 0);
        due("today did not go by", x.kind(0, 3), -1);
        due("ahead of the lamp", x.kind(0, 2), -5);
        due("day 0", x.kind(0, 0), -5);
        due("day -1", x.kind(0, -1), -1);
        due("no lamp", x.kind(1, 0), -1);
        due("lamp -1", x.kind(-1, 0), -1);
        x.pass(1);
        due("in store", x.kind(0, 3), 0);
        due("day 4", x.kind(0, 4), -1);
        due("day 600", x.kind(0, 600), -1);
    }

    private static void countsOfDays() {
        SunLamps x = new SunLamps();
        x.home(0, 0);
        x.pass(2);
        x.lamp(0, 3, 0);
        x.pass(1);
        x.lend(0, 0);
        textFrom(x, 0, "grace 1");
        textFrom(x, 0, "off c=1");
        x.pass(2);
        x.month(0, 0, 10);
        x.pass(1);
        takeDays(x, 0, 1, 0);
        x.pass(1);
        takeDays(x, 0, 2, 1);
        x.paid(0, 1);
        x.pass(2);
        // Days: 0, 1 none; 2 DAY; 3 LENT; 4 DARK; 5 FREE; 6 PAID; 7, 8 OWNED.
        int[] all = {7, 3, 2, 1, 0, 1, 2};
        for (int k = 0; k < 7; k++) due("days of kind " + k, x.days(0, 0, 8, k), all[k]);
        due("a part", x.days(0, 3, 5, 2), 2);
        due("a single one", x.days(0, 5, 5, 3), 1);
        due("ahead of the lamp", x.days(0, 0, 1, 0), 0);
        due("today", x.days(0, 0, 9, 0), -1);
        due("behind", x.days(0, 5, 4, 0), -1);
        due("from -1", x.days(0, -1, 4, 0), -1);
        due("kind 7", x.days(0, 0, 1, 7), -1);
        due("kind -1", x.days(0, 0, 1, -1), -1);
        due("no lamp", x.days(1, 0, 1, 0), -1);
    }

    private static void feeding() {
        SunLamps x = new SunLamps();
        due("n -1", x.feed(0, -1), -2);
        due("n 5", x.feed(0, 5), -2);
        due("n 0", x.feed(7, 0), 0);
        // "grac" and "e 5", the highest first.
        due("four", x.feed('g' << 24 | 'r' << 16 | 'a' << 8 | 'c', 4), 4);
        due("three", x.feed(0x7f << 24 | 'e' << 16 | ' ' << 8 | '5', 3), 7);
        due("text", x.text(0), 0);
        due("grace 5", x.force(1, 0, 0, 0), 5);
        for (int i = 1; i <= 24; i++) due("feed", x.feed(0, 4), 4 * i);
        due("98", x.feed(0, 2), 98);
        due("too many", x.feed(0, 3), -4);
        due("nothing came", x.count(4), 98);
        due("100", x.feed(0, 2), 100);
        due("none", x.feed(0, 0), 100);
        due("full", x.feed(0, 1), -4);
        due("bad ahead of full", x.feed(0, 5), -2);
    }

    private static void texts() {
        SunLamps x = new SunLamps();
        feedAll(x, "grace 1");
        due("day -1", x.text(-1), -2);
        due("day 600", x.text(600), -2);
        due("the text stays", x.count(4), 7);
        due("day 599", x.text(599), 0);
        due("the text is empty", x.count(4), 0);
        feedAll(x, "grace x");
        due("a fault", x.text(0), -16);
        due("empty with a fault", x.count(4), 0);
        due("an empty text", x.text(0), -10);
        feedAll(x, "grace 5;off h=0;x");
        due("a fault behind clauses", x.text(0), -10 - 16);
        due("nothing of it is in force", x.force(1, 0, 0, 0), 0);
        for (int i = 1; i < 10; i++) due("text " + i, textFrom(x, 0, "grace " + i), i);
        due("texts", x.count(3), 10);
        feedAll(x, "grace x");
        due("full", x.text(0), -4);
        due("bad ahead of full", x.text(600), -2);
        due("it stays", x.count(4), 7);
        due("the latest of a day", x.force(1, 598, 0, 0), 9);
        due("the greatest day", x.force(1, 599, 0, 0), 1);
        SunLamps y = new SunLamps();
        due("eight clauses", textFrom(y, 3, "run y;run n;run y;run n;run y;run n;run y;sum 5 7"), 0);
        due("nine", textFrom(y, 3, "run y;run n;run y;run n;run y;run n;run y;run n;run y"), -10 - 47);
        StringBuilder full = new StringBuilder("off h<1");
        while (full.length() < 97) full.append("|h<1");
        full.setLength(95);
        full.append("|h=99");
        due("a hundred bytes", feedAll(y, full.toString()), 100);
        due("read to its end", y.text(0), 1);
    }

    private static void faultPlaces() {
        Object[][] wrong = {
            {"", 0}, {" ", 0}, {"x", 0}, {"s", 1}, {"sun", 2}, {"sum", 3}, {"sum5", 3}, {"sum ", 4}, {"sum  5 5", 4},
            {"sum 5", 5}, {"sum 5;", 5}, {"sum 5 ", 6}, {"sum 5 x", 6}, {"sum 5 6 ", 7}, {"sum 5 1234", 9},
            {"sum 1234 1", 7}, {"sum -1 1", 4}, {"sum 5 6;", 8}, {"sum 5 6,", 7}, {"grace", 5}, {"grace ", 6}, {"grace x", 6}, {"grade", 3},
            {"grace 1000", 9}, {"grace 1 2", 7}, {"ran", 1}, {"run", 3}, {"run ", 4}, {"run yes", 5}, {"run Y", 4},
            {"fetch", 5}, {"fetch ", 6}, {"fetch o", 7}, {"fetch o<", 8}, {"fetch o<<", 8}, {"fetch o<=1", 8},
            {"fetch o!1", 7}, {"fetch o<1234", 11}, {"fetch o<1&", 10}, {"fetch o<1|", 10}, {"fetch o<1||l=1", 10},
            {"fetch o<1& l=1", 10}, {"fetch (o<1", 10}, {"fetch (o<1;", 10}, {"fetch o<1)", 9}, {"fetch ()", 7},
            {"fetch !", 7}, {"fetch a<1", 6}, {"fetch 1<o", 6}, {"off c=1;;", 8}, {"of c=1", 2}, {"ofg", 2},
            {"off k=2;fetch", 13}, {"run y;x", 6}, {"run y run n", 5}, {"off !!!!!o=1", 8}, {"off ((((!o=1", 8},
            {"off o=1&!(!(", 12}, {"\u00e9", 0}, {"off !(!(o=1", 11},
        };
        for (Object[] row : wrong) {
            String text = (String) row[0];
            int place = (Integer) row[1];
            SunLamps x = new SunLamps();
            due("the fault in '" + text + "'", textFrom(x, 0, text), -10 - place);
            feedAll(x, text);
            due("tried: the fault in '" + text + "'", x.tried(0, 1), -10 - place);
            due("no text", x.count(3), 0);
        }
        String[] right = {"sum 0 0", "sum 999 999", "sum 005 007", "grace 0", "grace 999", "run y", "run n",
            "fetch o=0", "fetch l<999", "off k>1&h=2|m<3&c>4", "off !o=1", "off (o=1)", "off !(o=1|l=1)&(k=1)",
            "off ((((o=1))))", "off !!!!o=1", "off !(!(o=1))", "run y;run n", "off ((((o=1))))&((((l=1))))|!!!!k=0"};
        for (String text : right) {
            SunLamps x = new SunLamps();
            due("'" + text + "' is right", textFrom(x, 0, text), 0);
        }
    }

    private static void depths() {
        SunLamps x = new SunLamps();
        due("four of both", textFrom(x, 0, "off !(!(o=1))"), 0);
        due("a fifth !", textFrom(x, 0, "off !(!(!o=1))"), -10 - 8);
        due("a fifth (", textFrom(x, 0, "off !(!((o=1)))"), -10 - 8);
        due("a fourth ! behind a closed one", textFrom(x, 0, "off ((((o=1)|!o=2)))"), 1);
        due("behind a closed one", textFrom(x, 0, "off ((((o=1)|!!o=2)))"), -10 - 14);
        due("behind three closed ones", textFrom(x, 0, "off ((((o=1))))|(((!o=2)))"), 2);
    }

    private static void forced() {
        SunLamps x = withLamp(5, 0);
        due("no terms: a coin a day", x.force(0, 0, 0, 999), 999);
        due("no terms: grace", x.force(1, 0, 0, 0), 0);
        due("no terms: run", x.force(2, 0, 0, 0), 0);
        due("no terms: fetch", x.force(3, 0, 0, 0), 0);
        due("no terms: off", x.force(4, 0, 0, 0), 0);
        textFrom(x, 5, "sum 5 7;sum 6 9;sum 5 8;grace 3");
        textFrom(x, 3, "sum 5 1;sum 9 0;run y");
        textFrom(x, 3, "grace 4;sum 005 2");
        due("not yet", x.force(0, 2, 0, 5), 5);
        due("the latest of a day", x.force(0, 3, 0, 5), 2);
        due("another sum, of the other text", x.force(0, 4, 0, 9), 0);
        due("the last clause of the greatest day", x.force(0, 5, 0, 5), 8);
        due("a sum that isn't told", x.force(0, 5, 0, 7), 7);
        due("an older text's sum", x.force(0, 599, 0, 9), 0);
        due("grace by day 4", x.force(1, 4, 0, 0), 4);
        due("grace by day 5", x.force(1, 5, 0, 0), 3);
        textFrom(x, 7, "run n");
        due("run n by day 7", x.force(2, 7, 0, 0), 0);
        due("run by day 2", x.force(2, 2, 0, 0), 0);
        due("run by day 5", x.force(2, 5, 99, -7), 1);
        due("word -1", x.force(-1, 0, 0, 5), -1);
        due("word 5", x.force(5, 600, 0, 5), -1);
        due("which", x.force(3, 0, 1, 5), -1);
        due("which ahead of day", x.force(4, 600, -1, 5), -1);
        due("which does not matter", x.force(0, 0, -1, 5), 5);
        due("day -1", x.force(1, -1, 0, 5), -2);
        due("day 600", x.force(4, 600, 0, 5), -2);
        due("coins 0", x.force(0, 0, 0, 0), -2);
        due("coins 1000", x.force(0, 0, 0, 1000), -2);
        due("coins do not matter", x.force(1, 0, 0, 1000), 0);
    }

    private static void forcedTests() {
        SunLamps x = withLamp(10, 0);
        x.lamp(0, 10, 0);
        x.month(0, 0, 19);
        x.month(0, 1, 230);
        String[] tests = {"o=10", "o<10", "o<11", "o>9", "o>10", "l=0", "k=0", "h=0", "h=1", "m=0", "m>0", "c=1", "c=2",
            "o=1|h=0", "o=1&h=0|m=0", "m=0|o=1&h=1", "!m=0", "!m=1&h=0", "!(m=1&h=0)", "(m=0|o=1)&h=1", "!!m=0", "o=010",
            "h=1|h=1|h=0", "h=0&h=0&h=1", "!(h=1|!(m=0&l=0))"};
        int[] want = {1, 0, 1, 1, 0, 1, 1, 1, 0, 1, 0, 1, 0,
            1, 1, 1, 0, 1, 1, 0, 1, 1,
            1, 0, 1};
        for (int i = 0; i < tests.length; i++) {
            SunLamps y = withLamp(10, 0);
            y.lamp(0, 10, 0);
            y.month(0, 0, 19);
            textFrom(y, 0, "fetch " + tests[i] + ";off " + tests[i]);
            due("fetch " + tests[i], y.force(3, 29, 0, 0), want[i]);
            due("off " + tests[i], y.force(4, 0, 0, 0), want[i]);
            due("without a home", y.force(4, 0, 1, 0), 0);
        }
        textFrom(x, 0, "off c=23&m=1");
        due("the month of the day ahead", x.force(4, 29, 0, 0), 0);
        due("the month of the day", x.force(4, 30, 0, 0), 1);
        due("the last day of the month", x.force(4, 59, 0, 0), 1);
        due("the month behind", x.force(4, 60, 0, 0), 0);
        textFrom(x, 0, "fetch k=2");
        x.pass(2);
        due("as it is now", x.force(3, 300, 0, 0), 1);
        textFrom(x, 0, "fetch l=0&!h=1;off o<0|h=0");
        x.broke(0, 0, 0);
        x.move(0, 1);
        due("in repair it has its home", x.force(4, 0, 0, 0), 1);
        x.move(0, 2);
        x.move(0, 0);
        due("fetched has none", x.force(4, 0, 0, 0), 0);
    }

    private static void reasons() {
        SunLamps x = new SunLamps();
        due("none", x.why(0, 0, 5), -5);
        textFrom(x, 5, "sum 5 7;sum 6 9;sum 5 8;grace 3");
        textFrom(x, 3, "off h=1;fetch h=1;off h=2");
        textFrom(x, 3, "fetch h=1;sum 5 4");
        due("the last clause", x.why(0, 5, 5), 2);
        due("the one with that sum", x.why(0, 5, 6), 1);
        due("an earlier day", x.why(0, 4, 5), 201);
        due("no such sum", x.why(0, 5, 7), -5);
        due("grace", x.why(1, 5, 0), 3);
        due("grace not yet", x.why(1, 4, 0), -5);
        due("run", x.why(2, 599, 0), -5);
        due("fetch", x.why(3, 3, 0), 200);
        due("off", x.why(4, 3, 0), 102);
        due("off not yet", x.why(4, 2, 0), -5);
        due("word -1", x.why(-1, 0, 5), -1);
        due("word 5", x.why(5, 0, 5), -1);
        due("day -1", x.why(1, -1, 5), -2);
        due("day 600", x.why(1, 600, 5), -2);
        due("coins 0", x.why(0, 0, 0), -2);
        due("coins 1000", x.why(0, 0, 1000), -2);
    }

    private static void codes() {
        SunLamps x = new SunLamps();
        for (int i = 0; i < 20; i++) x.lamp(0, 5, 0);
        due("the least", x.code(0, 1, 0), 8050);
        due("d and count", x.code(2, 10, 3), 3 * 7919 + 1310 + 153 + 3);
        due("modulo", x.code(19, 60, 63), (20 * 7919 + 7860 + 17 * 63 * 63 + 63) % 100000);
        due("no lamp", x.code(20, 1, 0), -1);
        due("lamp -1", x.code(-1, 61, 0), -1);
        due("d 0", x.code(0, 0, 0), -2);
        due("d 61", x.code(0, 61, 0), -2);
        due("count -1", x.code(0, 1, -1), -2);
        due("count 64", x.code(0, 1, 64), -2);
    }

    private static void selling() {
        SunLamps x = new SunLamps();
        x.lamp(0, 5, 0);
        textFrom(x, 0, "sum 1 60;sum 2 61;sum 3 0;sum 70 7");
        textFrom(x, 1, "sum 1 1");
        due("no lamp", x.sold(1, 0), -1);
        due("coins 0", x.sold(0, 0), -2);
        due("coins 1000", x.sold(0, 1000), -2);
        due("more than 60", x.sold(0, 2), -3);
        due("no day", x.sold(0, 3), -3);
        due("61 coins", x.sold(0, 61), -3);
        due("nothing was sold", x.of(0, 9), 0);
        due("60 days", x.sold(0, 1), x.code(0, 60, 0));
        due("60 coins", x.sold(0, 60), x.code(0, 60, 1));
        due("a told sum", x.sold(0, 70), x.code(0, 7, 2));
        x.pass(1);
        due("the terms of the next day", x.sold(0, 1), x.code(0, 1, 3));
        for (int count = 4; count < 64; count++) due("count " + count, x.sold(0, 5), x.code(0, 5, count));
        due("full", x.sold(0, 5), -4);
        due("state ahead of full", x.sold(0, 2), -3);
        due("64 counts", x.of(0, 9), 64);
    }

    private static void taking() {
        SunLamps x = withLamp(999, 0);
        x.lamp(0, 999, 0);
        due("no lamp", x.take(2, 0), -1);
        due("lamp -1", x.take(-1, 0), -1);
        due("in store", takeDays(x, 1, 5, 0), 0);
        due("nothing was taken", x.of(1, 8), 0);
        due("another lamp's", x.take(0, x.code(1, 5, 0)), 0);
        due("too far ahead", takeDays(x, 0, 5, 8), 0);
        due("the last of the window", takeDays(x, 0, 5, 7), 5);
        due("good once", takeDays(x, 0, 5, 7), 0);
        due("another of that count", takeDays(x, 0, 6, 7), 0);
        greatestCode();
        due("low", x.of(0, 8), 0);
        due("above the modulus", x.take(0, x.code(0, 5, 0) + 100000), 0);
        due("below 0", x.take(0, x.code(0, 5, 0) - 100000), 0);
        due("no days", x.take(0, 7919), 0);
        due("61 days", x.take(0, 7919 + 61 * 131), 0);
        due("60 days", takeDays(x, 0, 60, 0), 60);
        due("low 1", x.of(0, 8), 1);
        due("counter", x.of(0, 2), 65);
        due("the window moves", takeDays(x, 0, 1, 8), 1);
        for (int count = 1; count < 7; count++) takeDays(x, 0, 1, count);
        due("low behind those taken", x.of(0, 8), 9);
        for (int count = 9; count < 64; count++) due("count " + count, takeDays(x, 0, 1, count), 1);
        due("low 64", x.of(0, 8), 64);
        due("none is left", takeDays(x, 0, 1, 63), 0);
        due("owed", x.of(0, 5), 999 - x.of(0, 2));
        SunLamps y = withLamp(8, 0);
        y.broke(0, 0, 0);
        due("a broken one takes", takeDays(y, 0, 3, 0), 3);
        y.move(0, 1);
        due("not in repair", takeDays(y, 0, 3, 1), 0);
        y.move(0, 2);
        due("more than it owes", takeDays(y, 0, 60, 1), 60);
        due("owned", y.of(0, 0), 4);
        due("it owes below 0", y.of(0, 5), 8 - 63);
        due("an owned one does not take", takeDays(y, 0, 3, 2), 0);
        leastCountFirst();
    }

    /** No code of any lamp is nearer to the modulus than 99998: lamp 10's for 41 days with count 21. */
    private static void greatestCode() {
        SunLamps x = new SunLamps();
        x.home(0, 0);
        for (int i = 0; i <= 10; i++) x.lamp(0, 999, 0);
        x.lend(10, 0);
        for (int count = 0; count < 14; count++) takeDays(x, 10, 1, count);
        due("the greatest code", x.code(10, 41, 21), 99998);
        due("it and the modulus", x.take(10, 199998), 0);
        due("it less the modulus", x.take(10, -2), 0);
        due("it", x.take(10, 99998), 41);
    }

    /** A number that is a code with two counts is of the least one. */
    private static void leastCountFirst() {
        // Counts a < b share codes if 17 (a + b) + 1 is a multiple of 131: if a + b is 77.
        int both = (17 * 77 + 1) / 131 * 5;
        SunLamps x = withLamp(999, 0);
        for (int count = 0; count < 35; count++) takeDays(x, 0, 1, count);
        due("a code of 36 is one of 41", x.code(0, 1 + both, 36), x.code(0, 1, 41));
        due("the least count", x.take(0, x.code(0, 1, 41)), 1 + both);
        due("then the next one", x.take(0, x.code(0, 1, 41)), 1);
        due("low", x.of(0, 8), 35);
    }

    private static void agreeing() {
        SunLamps x = withLamp(999, 0);
        due("none taken", x.agree(0), 1);
        due("no lamp", x.agree(1), -1);
        due("lamp -1", x.agree(-1), -1);
        x.sold(0, 4);
        due("sold more", x.agree(0), 1);
        x.sold(0, 3);
        takeDays(x, 0, 3, 1);
        due("the second one first", x.agree(0), 0);
        takeDays(x, 0, 4, 0);
        due("both", x.agree(0), 1);
        takeDays(x, 0, 5, 2);
        due("one that wasn't sold", x.agree(0), 0);
        x.sold(0, 6);
        due("sold as other days", x.agree(0), 0);
        SunLamps y = withLamp(999, 0);
        y.sold(0, 4);
        takeDays(y, 0, 5, 0);
        due("other days", y.agree(0), 0);
        takeDays(y, 0, 5, 1);
        y.sold(0, 6);
        due("together alike", y.agree(0), 1);
    }

    private static void drifting() {
        SunLamps x = new SunLamps();
        x.home(0, 0);
        x.lamp(0, 5, -9);
        x.lamp(0, 5, 9);
        x.lamp(0, 999, 9);
        x.pass(3);
        due("in store", x.drift(0, 0), 0);
        due("no span", x.drift(0, 1), 0);
        for (int i = 0; i < 3; i++) x.lend(i, 0);
        due("on the roof today", x.drift(0, 0), 0);
        x.pass(1);
        due("a day", x.drift(0, 0), -9);
        due("up", x.drift(0, 1), 1);
        takeDays(x, 1, 5, 0);
        for (int i = 0; i < 5; i++) x.pass(31);
        x.pass(4);
        due("160 days", x.drift(0, 0), -1440);
        due("a whole day", x.drift(0, 1), 1);
        due("of an owned one", x.drift(1, 0), 1440);
        x.pass(1);
        due("below", x.drift(0, 0), -1449);
        due("two days", x.drift(0, 1), 2);
        due("two days the other way", x.drift(1, 1), 2);
        x.broke(2, 0, 0);
        due("a broken one", x.drift(2, 0), 1449);
        x.move(2, 1);
        due("in repair", x.drift(2, 0), 0);
        x.pass(2);
        x.move(2, 2);
        x.pass(2);
        due("from repair on", x.drift(2, 0), 18);
        textFrom(x, 0, "fetch h=0");
        x.move(2, 0);
        due("fetched", x.drift(2, 0), 0);
        due("what 2", x.drift(0, 2), NO);
        due("what -1", x.drift(0, -1), NO);
        due("no lamp", x.drift(3, 0), NO);
        due("lamp -1", x.drift(-1, 0), NO);
    }

    private static void paying() {
        SunLamps x = withLamp(4, 0);
        textFrom(x, 0, "grace 3");
        x.pass(5);
        due("no lamp", x.paid(1, 0), -1);
        due("n 0", x.paid(0, 0), -2);
        due("n 61", x.paid(0, 61), -2);
        due("not so many", x.paid(0, 4), -3);
        due("one", x.paid(0, 1), 2);
        due("lent", x.of(0, 3), 2);
        x.pass(1);
        due("lent anew", x.of(0, 3), 3);
        takeDays(x, 0, 4, 0);
        due("not owned with lent days", x.of(0, 0), 1);
        due("two", x.paid(0, 2), 1);
        due("not yet", x.of(0, 0), 1);
        due("the last one", x.paid(0, 1), 0);
        due("owned", x.of(0, 0), 4);
        due("none is left", x.paid(0, 1), -3);
        SunLamps y = withLamp(999, 0);
        textFrom(y, 0, "grace 99");
        y.pass(60);
        due("sixty", y.paid(0, 60), 0);
        due("on the roof still: it owes", y.of(0, 0), 1);
    }

    private static void rolling() {
        SunLamps x = withLamp(10, 0);
        x.lamp(0, 20, 0);
        due("no lamp", x.roll(0, 2), -1);
        due("no lamp either", x.roll(2, 0), -1);
        due("lamp -1", x.roll(-1, -1), -1);
        due("one lamp", x.roll(0, 0), -2);
        due("one lamp in store", x.roll(1, 1), -2);
        due("in store", x.roll(1, 0), -3);
        textFrom(x, 0, "grace 2");
        x.pass(1);
        takeDays(x, 0, 3, 0);
        x.pass(1);
        due("the rest", x.roll(0, 1), 7);
        due("its price", x.of(0, 6), 3);
        due("it owes nothing", x.of(0, 5), 0);
        due("owned, though it was lent days", x.of(0, 0), 4);
        due("lent stays", x.of(0, 3), 1);
        due("the other price", x.of(1, 6), 27);
        due("the other one stays in store", x.of(1, 0), 0);
        x.lend(1, 1);
        due("to an owned one", x.roll(1, 0), -3);
        due("paid when owned", x.paid(0, 1), 0);

        SunLamps y = withLamp(5, 0);
        textFrom(y, 0, "grace 1");
        y.pass(1);
        takeDays(y, 0, 5, 0);
        y.lamp(0, 5, 0);
        due("owes nothing", y.roll(0, 1), -3);

        SunLamps z = new SunLamps();
        z.home(0, 0);
        z.lamp(0, 9, 0);
        for (int i = 1; i < 13; i++) {
            z.lamp(0, 999, 0);
            z.lend(i, 0);
        }
        for (int i = 1; i <= 10; i++) due("rolled " + i, z.roll(i, 0), 999);
        due("9999", z.of(0, 6), 9999);
        due("above 9999", z.roll(11, 0), -3);
        due("nothing changed", z.of(11, 0), 1);
        for (int count = 0; count < 16; count++) takeDays(z, 12, 60, count);
        takeDays(z, 12, 38, 16);
        due("it owes one", z.of(12, 5), 1);
        due("that's on the roof still", z.of(12, 0), 1);
        due("10000", z.roll(12, 0), -3);
        due("a rest of one", z.roll(12, 11), 1);
    }

    private static void canPay() {
        SunLamps x = new SunLamps();
        x.home(0, 0);
        due("none", x.can(0, 0, 0), -5);
        due("none", x.can(0, 0, 1), -5);
        x.month(0, 0, 7);
        due("the month ahead", x.can(0, 1, 0), 7);
        due("its own month is none", x.can(0, 0, 1), -5);
        x.home(1, 1);
        x.home(2, 2);
        x.month(1, 0, 27);
        x.month(1, 1, 300);
        x.month(2, 0, 28);
        x.month(2, 1, 3);
        due("least in month 0", x.can(0, 0, 0), 27);
        due("greatest in month 0", x.can(0, 0, 1), 28);
        due("alike by 20", x.can(0, 1, 1), 300);
        due("not by 21", x.can(0, 1, 0), 7);
        x.month(2, 0, 8);
        due("alike now", x.can(0, 1, 0), 3);
        x.month(0, 1, 300);
        due("each month ahead", x.can(0, 2, 0), 0);
        due("the greatest is its own", x.can(0, 2, 1), 300);
        x.month(1, 2, 900);
        due("those in that month", x.can(0, 2, 1), 900);
        due("month 19", x.can(0, 19, 1), 0);
        due("month 20", x.can(0, 20, 0), -1);
        due("month -1", x.can(0, -1, 0), -1);
        SunLamps y = new SunLamps();
        y.home(0, 0);
        y.home(0, 0);
        y.month(0, 0, 999);
        due("home 0 is another one of home 1", y.can(1, 0, 0), 999);
        due("the greatest of one", y.can(1, 0, 1), 999);
        due("home 3", x.can(3, 0, 0), -1);
        due("home -1", x.can(-1, 0, 0), -1);
        due("what 2", x.can(0, 0, 2), -1);
        due("what -1", x.can(0, 0, -1), -1);
    }

    private static void bestWay() {
        SunLamps x = new SunLamps();
        x.home(10, 0);
        x.home(0, 10);
        x.home(5, 5);
        for (int i = 0; i < 3; i++) x.month(i, 1, 10);
        due("no coins", x.best(7, 9999, -1), 0);
        due("no homes", x.best(7, 9999, -2), 0);
        due("no first home", x.best(7, 9999, 0), -1);
        for (int i = 0; i < 30; i += 30) x.pass(30);
        due("the month of today", x.best(7, 9999, -1), 30);
        due("the least row", x.best(7, 9999, 0) * 100 + x.best(7, 9999, 1) * 10 + x.best(7, 9999, 2), 12);
        due("i behind the last", x.best(7, 9999, 3), -1);
        due("30 minutes", x.best(7, 30, -2), 3);
        due("29 minutes", x.best(7, 29, -2), 2);
        due("in order of the way", x.best(7, 30, 1), 2);
        due("only the way", x.best(7, 20, 0) * 10 + x.best(7, 20, 1), 2);
        due("10 minutes", x.best(7, 10, 0), 0);
        due("9 minutes", x.best(7, 9, -1), 0);
        due("told homes only", x.best(6, 10, 0), 1);
        x.month(2, 1, 21);
        due("the most coins", x.best(7, 20, -1), 31);
        x.month(2, 1, 20);
        due("of several the fewest homes", x.best(3, 30, -1), 20);
        x.month(0, 1, 0);
        due("homes without coins are left out", x.best(7, 9999, -2), 2);
        due("i -3", x.best(7, 10, -3), -1);
        due("i -3 ahead of bad", x.best(8, -1, -3), -1);
        due("no such home", x.best(8, 10, -1), -2);
        due("bits below 0", x.best(-1, 10, -1), -2);
        due("n -1", x.best(7, -1, -1), -2);
        due("n 10000", x.best(7, 10000, -1), -2);
        due("bad ahead of i", x.best(8, 10, 99), -2);
        for (int i = 3; i < 12; i++) x.home(i, i);
        due("eight homes", x.best(255, 10, -1), -2);
        due("seven homes", x.best(0xFE0, 10, -1), 0);
        due("the last home", x.best(0x800, 10, -1), 0);
        due("the thirteenth", x.best(0x1000, 10, -1), -2);
        due("none told", x.best(0, 0, -1), 0);
        due("none to visit", x.best(0, 0, -2), 0);
        for (int i = 5; i < 12; i++) x.month(i, 1, i);
        due("all seven", x.best(0xFE0, 22, -1), 5 + 6 + 7 + 8 + 9 + 10 + 11);
        due("the seventh", x.best(0xFE0, 22, 6), 11);
        due("six of seven", x.best(0xFE0, 21, -1), 5 + 6 + 7 + 8 + 9 + 10);
        due("another way than the latest", x.best(1 << 6, 22, 0), 6);
        SunLamps y = new SunLamps();
        y.home(0, 3);
        y.home(0, 4);
        y.home(0, 7);
        y.month(0, 0, 5);
        y.month(1, 0, 5);
        y.month(2, 0, 10);
        due("fewest", y.best(7, 7, -2), 3);
        due("all", y.best(7, 7, -1), 20);
        y.home(3, 0);
        y.month(3, 0, 10);
        due("one instead of two", y.best(11, 4, -2), 1);
        due("that one", y.best(11, 4, 0), 3);
    }

    private static void breaking() {
        SunLamps x = withLamp(5, 0);
        x.lamp(0, 5, 0);
        due("no lamp", x.broke(2, 0, 0), -1);
        due("part 4", x.broke(0, 4, 0), -1);
        due("part -1", x.broke(0, -1, 0), -1);
        due("hand 4", x.broke(0, 0, 4), -1);
        due("hand -1", x.broke(0, 0, -1), -1);
        due("in store", x.broke(1, 0, 0), -3);
        due("a fault", x.broke(0, 3, 3), 1);
        due("broken", x.of(0, 7), 1);
        due("broken already", x.broke(0, 0, 0), -3);
        for (int i = 2; i <= 12; i++) {
            x.move(0, 1);
            due("in repair", x.broke(0, 0, 0), -3);
            x.move(0, 2);
            due("fault " + i, x.broke(0, 0, 0), i);
        }
        x.move(0, 1);
        x.move(0, 2);
        due("full", x.broke(0, 0, 0), -4);
        due("not broken then", x.of(0, 7), 0);
        due("faults", x.count(5), 12);
        takeDays(x, 0, 5, 0);
        due("an owned one", x.broke(0, 0, 0), -3);
    }

    private static void faultsOf(SunLamps x, int[][] lotPartHand) {
        x.home(0, 0);
        for (int[] fault : lotPartHand) {
            int lamp = x.lamp(fault[0], 5, 0);
            x.lend(lamp, 0);
            x.broke(lamp, fault[1], fault[2]);
        }
    }

    private static void causes() {
        SunLamps x = new SunLamps();
        due("no faults", x.cause(), 0);
        faultsOf(x, new int[][] {{7, 3, 3}});
        due("the least of one", x.cause(), 1 << 3);
        SunLamps y = new SunLamps();
        faultsOf(y, new int[][] {{7, 0, 0}, {7, 1, 1}, {7, 2, 2}});
        due("a lot", y.cause(), 1 << 11);
        SunLamps z = new SunLamps();
        faultsOf(z, new int[][] {{0, 0, 3}, {1, 1, 3}, {2, 2, 3}, {3, 3, 3}});
        due("a hand", z.cause(), 1 << 15);
        SunLamps all = new SunLamps();
        int[][] each = new int[12][];
        for (int i = 0; i < 12; i++) each[i] = new int[] {i % 8, i % 4, (i + i / 4) % 4};
        faultsOf(all, each);
        due("four parts at most", all.cause(), 15);
        SunLamps two = new SunLamps();
        faultsOf(two, new int[][] {{0, 3, 0}, {1, 3, 1}, {5, 1, 2}, {5, 0, 2}});
        due("two of them, the least as bits", two.cause(), 1 << 3 | 1 << 9);
        SunLamps later = new SunLamps();
        faultsOf(later, new int[][] {{0, 3, 0}, {0, 1, 1}, {6, 2, 1}});
        due("less than a part and a hand", later.cause(), 1 << 4 | 1 << 2);
        SunLamps zero = new SunLamps();
        faultsOf(zero, new int[][] {{7, 0, 3}, {6, 0, 2}});
        due("part 0", zero.cause(), 1);
    }

    private static void lenders() {
        SunLamps x = withLamp(5, 0);
        x.lamp(0, 5, 0);
        due("no lamp", x.sell(2, 0, 0, 0), -1);
        due("lender 4", x.sell(0, 4, 0, 0), -1);
        due("lender -1", x.sell(0, -1, 0, 0), -1);
        due("from -1", x.sell(0, 0, -1, 0), -2);
        due("to 600", x.sell(0, 0, 0, 600), -2);
        due("from behind to", x.sell(0, 0, 6, 5), -2);
        due("the house's", x.whose(0, 5), -5);
        due("a day", x.sell(0, 3, 5, 5), 1);
        due("its lender", x.whose(0, 5), 3);
        due("the day ahead", x.whose(0, 4), -5);
        due("the day behind", x.whose(0, 6), -5);
        due("another lamp's", x.whose(1, 5), -5);
        due("all days", x.sell(0, 1, 0, 599), 2);
        due("the latest", x.whose(0, 5), 1);
        due("the first day", x.whose(0, 0), 1);
        due("the last day", x.whose(0, 599), 1);
        due("day -1", x.whose(0, -1), -1);
        due("day 600", x.whose(0, 600), -1);
        due("no lamp's", x.whose(2, 0), -1);
        due("a later one elsewhere", x.sell(0, 2, 7, 9), 3);
        due("an earlier one", x.whose(0, 5), 1);
        for (int i = 4; i <= 20; i++) due("sale " + i, x.sell(1, 0, i, i + 1), i);
        due("behind another lamp's", x.whose(0, 8), 2);
        due("full", x.sell(0, 0, 0, 0), -4);
        due("bad ahead of full", x.sell(0, 0, 1, 0), -2);
        due("sales", x.count(6), 20);
    }

    private static void trying() {
        SunLamps x = withLamp(10, 0);
        x.lamp(0, 10, 0);
        feedAll(x, "grace 2");
        due("lamps that there aren't", x.tried(4, 5), -2);
        due("bits below 0", x.tried(-1, 5), -2);
        due("n 0", x.tried(1, 0), -2);
        due("n 61", x.tried(1, 61), -2);
        due("the text stays", x.count(4), 7);
        due("two days lent", x.tried(1, 5), 2);
        due("the text is empty", x.count(4), 0);
        due("no text came", x.count(3), 0);
        due("an empty text", x.tried(1, 5), -10);
        due("nothing is lent", x.of(0, 3), 0);
        due("no day went by", x.count(0), 0);
        feedAll(x, "off m=0");
        due("one in store isn't lit", x.tried(3, 60), 30);
        feedAll(x, "off m=0");
        due("no lamps", x.tried(0, 60), 0);
        takeDays(x, 0, 3, 0);
        feedAll(x, "grace 1");
        due("paid and lent", x.tried(1, 60), 4);
        due("counter", x.of(0, 2), 3);
        due("run", x.of(0, 4), 0);
        textFrom(x, 0, "grace 4");
        textFrom(x, 5, "grace 5");
        feedAll(x, "run n");
        due("beside the other texts", x.tried(1, 60), 8);
        feedAll(x, "grace 1");
        due("the latest of today, until a later one", x.tried(1, 60), 8);
        feedAll(x, "grace 1");
        due("short of the later one", x.tried(1, 5), 4);
        due("kept as it is", x.force(1, 4, 0, 0), 4);
        textFrom(x, 0, "grace 4");
        feedAll(x, "off k=2");
        due("dark days go on beside", x.tried(1, 20), 8 + 4);
        due("dark days now", x.of(0, 10), 0);
        x.broke(0, 0, 0);
        feedAll(x, "run y");
        due("stopped days aren't lit", x.tried(1, 20), 0);
        due("counter stays", x.of(0, 2), 3);
        takeDays(x, 0, 7, 1);
        due("owned", x.of(0, 0), 4);
        feedAll(x, "run y");
        due("owned days are lit", x.tried(1, 20), 20);
        x.lend(1, 1);
        takeDays(x, 1, 2, 0);
        feedAll(x, "grace 0");
        due("each on its own meter", x.tried(3, 4), 4 + 2);
        for (int i = x.count(3); i < 10; i++) textFrom(x, 0, "grace 4");
        feedAll(x, "run y");
        due("beside ten texts", x.tried(1, 7), 7);
        due("ten texts", x.count(3), 10);
    }

    private static void tryingAtTheEnd() {
        SunLamps x = withLamp(10, 0);
        for (int i = 0; i < 9; i++) x.pass(60);
        x.pass(57);
        feedAll(x, "off h=0");
        due("days behind 599 are none", x.tried(1, 60), 3);
        x.pass(2);
        feedAll(x, "off h=0");
        due("the last day", x.tried(1, 60), 1);
        feedAll(x, "off h=0");
        due("the last day alone", x.tried(1, 1), 1);
    }

    private static void hearing() {
        SunLamps x = withLamp(5, 0);
        x.lamp(0, 5, 0);
        x.pass(5);
        due("no lamp", x.hear(2, 0, 0), -1);
        due("tomorrow", x.hear(0, 6, 0), -2);
        due("day -1", x.hear(0, -1, 0), -2);
        due("late -1", x.hear(0, 5, -1), -2);
        due("late 61", x.hear(0, 5, 61), -2);
        due("today", x.hear(0, 5, 60), 1);
        due("earlier", x.hear(0, 2, 0), 2);
        due("known at once", x.known(0, 2), 2);
        due("not ahead", x.known(0, 1), -5);
        due("64", x.known(0, 64), 2);
        due("65", x.known(0, 65), 5);
        due("an older day later", x.hear(0, 1, 3), 3);
        due("the greatest day", x.known(0, 4), 2);
        due("another lamp", x.known(1, 599), -5);
        due("no lamp", x.known(2, 0), -1);
        due("day -1", x.known(0, -1), -1);
        due("day 600", x.known(0, 600), -1);
        for (int i = 4; i <= 60; i++) due("message " + i, x.hear(1, 0, i), i);
        due("full", x.hear(0, 0, 0), -4);
        due("bad ahead of full", x.hear(0, 6, 0), -2);
        due("messages", x.count(7), 60);
    }

    private static void acting() {
        SunLamps x = new SunLamps();
        x.home(0, 0);
        x.lamp(0, 9, 0);
        x.pass(2);
        x.lamp(0, 9, 0);
        x.pass(2);
        due("counts", x.act(0, 3, 0, 5), 8);
        due("owes", x.act(1, 3, 1, 5), 7);
        due("ranks", x.act(1, 3, 2, 5), 14);
        due("wrapping", x.act(0, 1, 0, Integer.MAX_VALUE), Integer.MIN_VALUE);
        due("three bodies", x.act(0, 1, 2, 1), 4);
        due("they ran", x.count(8), 3);
        due("today", x.act(0, 4, 0, 5), 0);
        due("no trace", x.count(8), 0);
        due("no first body", x.trace(0), -1);
        x.act(0, 1, 2, 1);
        due("ahead of the lamp", x.act(1, 1, 0, 5), 0);
        due("no trace again", x.count(8), 0);
        x.act(0, 1, 2, 1);
        due("act 3", x.act(0, 1, 3, 5), 0);
        due("no trace of it", x.count(8), 0);
        due("act -1", x.act(0, 1, -1, 5), 0);
        due("no lamp", x.act(2, 1, 0, 5), 0);
        due("lamp -1", x.act(-1, 1, 0, 5), 0);
    }

    /** A lamp 1 with a day of each kind: 0 DAY, 1 PAID, 2 LENT, 3 FREE, 4 STOPPED, 5 DARK, 6 OWNED. */
    private static SunLamps withAllKinds() {
        SunLamps x = new SunLamps();
        x.home(0, 0);
        x.lamp(0, 9, 0);
        x.lamp(0, 9, 0);
        x.pass(1);
        x.lend(1, 0);
        takeDays(x, 1, 1, 0);
        x.pass(1);
        textFrom(x, 2, "grace 1");
        x.pass(1);
        x.month(0, 0, 10);
        textFrom(x, 2, "off c=1");
        x.pass(1);
        x.broke(1, 0, 0);
        x.pass(1);
        x.month(0, 0, 0);
        x.move(1, 1);
        x.move(1, 2);
        x.pass(1);
        x.paid(1, 1);
        takeDays(x, 1, 8, 1);
        x.pass(1);
        return x;
    }

    private static void actBodies() {
        SunLamps x = withAllKinds();
        for (int kind = 0; kind < 7; kind++) due("kind " + kind, x.kind(1, kind), kind);
        // Worked out by hand from the bodies, with x = 3, the lamp 1, and i the day of the kind.
        int[][] answers = {
            {3, 2, 4},
            {4, 3 ^ 3, 0},
            {17, 16, 32 + (5 + 2 - 1)},
            {15 + 3, -17, -(50 + 3 - 1) * 2 - (5 + 3 - 1)},
            {2 + 4, 5, 10},
            {8, 7, 7 - 14},
            {9, ((3 + 6 - 1) ^ 3) + 8, (((3 + 6 - 1) ^ 3) + 8) * 6},
        };
        for (int kind = 0; kind < 7; kind++) {
            for (int act = 0; act < 3; act++) {
                due("act(1, " + kind + ", " + act + ", 3)", x.act(1, kind, act, 3), answers[kind][act]);
            }
        }
        for (int kind = 0; kind < 7; kind++) {
            due("act 3 of kind " + kind, x.act(1, kind, 3, 3), 0);
            due("act -1 of kind " + kind, x.act(1, kind, -1, 3), 0);
            due("no body ran", x.count(8), 0);
        }
        tracesOf(x, 3, 2, 41, 31, 12, 40, 11, 30, 10, 40, 11, 30, 10);
        tracesOf(x, 5, 2, 60, 11, 10, 12, 11, 10);
        tracesOf(x, 6, 2, 71, 12, 70, 20, 11, 10, 10);
        tracesOf(x, 4, 1, 11, 50, 10);
        tracesOf(x, 2, 2, 31, 12, 11, 30, 10, 11, 30, 10);
        tracesOf(x, 1, 2, 12, 20, 11, 10);
    }

    private static void tracesOf(SunLamps x, int day, int act, int... bodies) {
        x.act(1, day, act, 3);
        for (int i = 0; i < bodies.length; i++) due("body " + i + " of day " + day, x.trace(i), bodies[i]);
        due("no more of day " + day, x.trace(bodies.length), -1);
        due("as many as ran", x.count(8), bodies.length);
    }

    private static void tracing() {
        SunLamps x = withAllKinds();
        due("no act yet", x.trace(0), -1);
        x.act(1, 0, 2, 1);
        due("12 first", x.trace(0), 12);
        due("trace(-1)", x.trace(-1), -1);
        due("trace(3)", x.trace(3), -1);
        due("trace(max)", x.trace(Integer.MAX_VALUE), -1);
        x.act(1, 0, 0, 1);
        due("the latest act", x.trace(0), 10);
        due("no second one", x.trace(1), -1);
        x.kind(1, 0);
        due("it stays", x.trace(0), 10);
    }

    private static void takenKinds() {
        SunLamps x = withAllKinds();
        boolean[][] under = {
            {true, false, false, false, false, false, false},
            {true, true, false, false, false, false, false},
            {true, false, true, false, false, false, false},
            {true, false, true, true, false, false, false},
            {true, false, false, false, true, false, false},
            {true, false, false, false, false, true, false},
            {true, true, false, false, false, false, true},
        };
        for (int day = 0; day < 7; day++) {
            for (int k = 0; k < 7; k++) due("taken(1, " + day + ", " + k + ")", x.taken(1, day, k), under[day][k] ? day : -12);
        }
        due("kind 7", x.taken(1, 0, 7), -2);
        due("kind -1", x.taken(9, 0, -1), -2);
        due("no lamp", x.taken(2, 0, 0), -11);
        due("lamp -1", x.taken(-1, 0, 0), -11);
        due("today", x.taken(1, 7, 0), -11);
        due("day -1", x.taken(1, -1, 0), -11);
        x.lamp(0, 1, 0);
        x.pass(1);
        due("ahead of the lamp", x.taken(2, 0, 0), -11);
        due("its day", x.taken(2, 7, 0), 0);
    }

    private static void lists() {
        SunLamps x = withLamp(900, 0);
        x.lamp(0, 900, 0);
        due("nothing there", x.list(0, 0, 1), 1000000);
        x.tape(0, 3, 25);
        x.item(0, 0, x.code(0, 5, 0));
        x.item(0, 1, 100000 + x.code(1, 5, 0));
        x.item(0, 2, x.code(0, 6, 1));
        x.item(0, 3, 200000);
        x.item(0, 4, x.code(0, 7, 2));
        x.item(0, 24, x.code(0, 8, 3));
        due("one in store takes none, others do", x.list(0, 0, 3), 11);
        due("ends at no lamp", x.list(0, 2, 5), 1000000);
        due("low", x.of(0, 8), 2);
        due("what came ahead stays", x.list(0, 4, 20), 7);
        due("up to its end", x.list(0, 24, 1), 8);
        x.item(0, 24, x.code(0, 9, 4));
        due("beyond its end", x.list(0, 24, 2), 1000009);
        due("i -1", x.list(0, -1, 2), 1000000);
        due("i max", x.list(0, Integer.MAX_VALUE, 20), 1000000);
        due("i min", x.list(0, Integer.MIN_VALUE, 20), 1000000);
        due("n 0", x.list(0, 0, 0), NO);
        due("n 21", x.list(0, 0, 21), NO);
        due("tape 6", x.list(6, 0, 1), NO);
        due("tape -1", x.list(-1, 0, 1), NO);
        x.item(0, 0, -100000 + x.code(0, 10, 5));
        due("a lamp below 0", x.list(0, 0, 1), 1000000);
        x.item(0, 0, Long.MAX_VALUE);
        due("a lamp above all", x.list(0, 0, 1), 1000000);
        x.item(0, 0, Long.MIN_VALUE);
        due("a lamp below all", x.list(0, 0, 1), 1000000);
        x.item(0, 0, (1L << 32) * 100000 + x.code(0, 10, 5));
        due("no lamp by its low bits", x.list(0, 0, 1), 1000000);
        for (int sort = 0; sort < 5; sort++) {
            x.tape(1, sort, 3);
            due("sort " + sort, x.list(1, 0, 1), sort == 3 ? 0 : NO + 1);
        }
        due("n ahead of the sort", x.list(1, 0, 0), NO);
    }

    private static void counting() {
        SunLamps x = withLamp(5, 0);
        x.pass(7);
        feedAll(x, "run y");
        x.text(0);
        feedAll(x, "ab");
        x.broke(0, 0, 0);
        x.sell(0, 0, 0, 0);
        x.sell(0, 0, 0, 0);
        for (int i = 0; i < 3; i++) x.hear(0, 0, 0);
        x.act(0, 0, 2, 0);
        // Day 0 was DARK: 60, 11, 10, 12, 11, 10.
        int[] want = {7, 2, 1, 1, 2, 1, 2, 3, 6};
        for (int what = 0; what < 9; what++) due("count(" + what + ")", x.count(what), want[what]);
        due("count(9)", x.count(9), -2);
        due("count(-1)", x.count(-1), -2);
    }

    private static void tapes() {
        SunLamps x = new SunLamps();
        due("tape -1", x.tape(-1, 9, 0), -1);
        due("tape 6", x.tape(6, 9, 0), -1);
        due("sort 5", x.tape(0, 5, 0), -2);
        due("sort -2", x.tape(0, -2, 0), -2);
        due("n 61", x.tape(0, 0, 61), -2);
        due("n -1", x.tape(0, 0, -1), -14);
        due("n min", x.tape(0, 0, Integer.MIN_VALUE), -14);
        due("bad ahead of size", x.tape(0, 5, -1), -2);
        due("nothing was made", x.item(0, 0, 1), -11);
        due("60", x.tape(0, 0, 60), 1);
        due("all 0", x.read(0, 59), 0);
        due("no 60", x.read(0, 60), NO);
        x.item(0, 59, 7);
        x.item(0, 0, 7);
        due("anew", x.tape(0, 3, 60), 1);
        due("all 0 again", x.read(0, 59) + x.read(0, 0), 0);
        x.item(0, 1, 7);
        due("a bad one changes nothing", x.tape(0, 1, 61), -2);
        due("kept", x.read(0, 1), 7);
        due("none of them", x.tape(0, 2, 0), 1);
        due("no place", x.read(0, 0), NO);
        due("no place for it", x.item(0, 0, 1), -13);
        due("nothing", x.tape(0, -1, 61), 1);
        due("nothing there", x.item(0, 0, 1), -11);
        due("nothing with n -1", x.tape(5, -1, -1), 1);
    }

    private static void items() {
        SunLamps x = new SunLamps();
        long[] given = {300, 200, -129, 70000, 40000, 1L << 31, (1L << 32) + 5, Long.MIN_VALUE, Long.MAX_VALUE, -1, 0};
        for (int sort = 0; sort < 5; sort++) {
            x.tape(sort, sort, 2);
            for (long v : given) {
                long want = v;
                if (sort == 0) want = (byte) v;
                if (sort == 1) want = (short) v;
                if (sort == 2) want = (int) v;
                if (sort == 4) want = v == 0 ? 0 : 1;
                due("item", x.item(sort, 1, v), 1);
                due("sort " + sort + " keeps " + v, x.read(sort, 1), want);
                due("the other item", x.read(sort, 0), 0);
            }
        }
        due("no tape", x.item(6, 0, 0), -1);
        due("tape -1", x.item(-1, 0, 0), -1);
        due("nothing", x.item(5, -1, 0), -11);
        due("i 2", x.item(0, 2, 0), -13);
        due("i -1", x.item(0, -1, 0), -13);
        due("read no tape", x.read(6, 0), NO);
        due("read tape -1", x.read(-1, 0), NO);
        due("read nothing", x.read(5, 0), NO);
        due("read 2", x.read(0, 2), NO);
        due("read -1", x.read(0, -1), NO);
    }

    private static void shifting() {
        SunLamps x = new SunLamps();
        x.tape(0, 2, 5);
        x.tape(1, 2, 3);
        x.tape(2, 3, 5);
        for (int i = 0; i < 5; i++) x.item(0, i, 10 + i);
        due("to another one", x.shift(0, 3, 1, 1, 2), 2);
        due("came", x.read(1, 1) * 100 + x.read(1, 2), 1314);
        due("not the first", x.read(1, 0), 0);
        due("on itself up", x.shift(0, 0, 0, 1, 4), 4);
        long[] up = {10, 10, 11, 12, 13};
        for (int i = 0; i < 5; i++) due("up " + i, x.read(0, i), up[i]);
        due("on itself down", x.shift(0, 2, 0, 0, 3), 3);
        long[] down = {11, 12, 13, 12, 13};
        for (int i = 0; i < 5; i++) due("down " + i, x.read(0, i), down[i]);
        due("none", x.shift(0, 5, 1, 3, 0), 0);
        due("no tape", x.shift(6, 0, 0, 0, 1), -1);
        due("no other", x.shift(0, 0, -1, 0, 1), -1);
        due("nothing ahead of places", x.shift(5, -1, 0, 0, 1), -11);
        due("nothing there", x.shift(0, 0, 5, 0, 1), -11);
        due("unlike sorts", x.shift(0, -1, 2, 0, 1), -12);
        due("n -1", x.shift(0, 0, 1, 0, -1), -13);
        due("i -1", x.shift(0, -1, 1, 0, 1), -13);
        due("j -1", x.shift(0, 0, 1, -1, 1), -13);
        due("beyond its end", x.shift(0, 4, 1, 0, 2), -13);
        due("beyond the other's end", x.shift(0, 0, 1, 2, 2), -13);
        due("i beyond with none", x.shift(0, 6, 1, 0, 0), -13);
        due("j beyond with none", x.shift(0, 0, 1, 4, 0), -13);
        due("n max", x.shift(0, 1, 1, 1, Integer.MAX_VALUE), -13);
        due("i max", x.shift(0, Integer.MAX_VALUE, 1, 1, 1), -13);
        due("j max", x.shift(0, 1, 1, Integer.MAX_VALUE, 1), -13);
        due("nothing changed", x.read(0, 0) * 100 + x.read(1, 1), 1113);
    }
}
