import java.io.IOException;
import java.nio.file.Path;
import java.util.ArrayList;
import java.util.List;
import java.util.Set;

/**
 * Every call with every mix of numbers at and next to its edges, in several worlds: the program must answer as
 * PlainModel does, so that of several reasons to refuse a call the right one is told; what was refused must not show.
 */
public final class GridTest {
    private static final long MIN = Integer.MIN_VALUE, MAX = Integer.MAX_VALUE, NO = Long.MIN_VALUE;
    private static final long[] LAMP = {MIN, -1, 0, 1, 2, 3, 4, 5, 6, 7, 12, 19, 20, MAX};
    private static final long[] HOME = {MIN, -1, 0, 2, 3, 11, 12, MAX};
    private static final long[] DAY = {MIN, -1, 0, 1, 3, 4, 599, 600, MAX};
    private static final long[] SMALL = {MIN, -1, 0, 3, 4, MAX};
    private static final long[] TO_2 = {MIN, -1, 0, 1, 2, 3, MAX};
    private static final long[] KIND = {MIN, -1, 0, 2, 6, 7, MAX};
    private static final long[] COINS = {MIN, -1, 0, 1, 5, 6, 7, 999, 1000, MAX};
    private static final long[] TO_60 = {MIN, -1, 0, 1, 60, 61, MAX};
    private static final long[] PLACE = {MIN, -1, 0, 99, 100, MAX};
    private static final long[] TAPE = {MIN, -1, 0, 2, 3, 4, 5, 6, MAX};
    private static final long[] AT = {MIN, -1, 0, 1, 3, 4, 59, 60, MAX};
    private static final long[] X = {MIN, -1, 0, 6, MAX};
    /** The calls that only ask. */
    private static final Set<String> ASKING = Set.of("of", "kind", "days", "force", "why", "code", "agree", "drift",
        "can", "best", "cause", "whose", "known", "trace", "taken", "count", "read");
    /** Behind so many calls that should have changed nothing the objects are looked at, and made anew. */
    private static final int BATCH = 30;

    private static final Checks checks = new Checks();

    private final String name;
    private final Script world;
    private final List<String> batch = new ArrayList<>();
    private SunLamps x;
    private PlainModel y;
    private int look = 0;

    private GridTest(String name, Script world) {
        this.name = name;
        this.world = world;
        makeAnew();
    }

    public static void main(String[] args) throws IOException {
        ScriptFiles files = ScriptFiles.of(Path.of(args.length > 0 ? args[0] : "."));
        new GridTest("empty", new Script("empty")).callAll();
        for (String name : List.of("world", "full", "last")) new GridTest(name, files.setups.get(name)).callAll();
        checks.end("GridTest");
    }

    private void makeAnew() {
        x = new SunLamps();
        y = new PlainModel();
        world.runUpTo(x, world.lines.size());
        world.runUpTo(y, world.lines.size());
        batch.clear();
    }

    private void callAll() {
        callHomes();
        callTerms();
        callCodes();
        callBooks();
        callTapes();
        endBatch();
    }

    private void callHomes() {
        call("home", PLACE, PLACE);
        call("month", HOME, new long[] {MIN, -1, 0, 19, 20, MAX}, new long[] {MIN, -1, 0, 999, 1000, MAX});
        call("lamp", new long[] {MIN, -1, 0, 7, 8, MAX}, new long[] {MIN, 0, 1, 999, 1000, MAX},
            new long[] {MIN, -10, -9, 9, 10, MAX});
        call("lend", LAMP, HOME);
        call("move", LAMP, TO_2);
        call("of", LAMP, new long[] {MIN, -1, 0, 1, 5, 7, 10, 11, MAX});
        call("pass", TO_60);
        call("kind", LAMP, DAY);
        call("days", LAMP, DAY, DAY, KIND);
    }

    private void callTerms() {
        call("feed", new long[] {MIN, 0, 0x67726163, MAX}, new long[] {MIN, -1, 0, 1, 4, 5, MAX});
        call("text", DAY);
        call("force", new long[] {MIN, -1, 0, 1, 2, 3, 4, 5, MAX}, DAY, LAMP, COINS);
        call("why", new long[] {MIN, -1, 0, 1, 2, 3, 4, 5, MAX}, DAY, COINS);
        call("tried", new long[] {MIN, -1, 0, 1, 127, 128, (1 << 20) - 1, 1 << 20, MAX}, TO_60);
    }

    private void callCodes() {
        call("code", LAMP, TO_60, new long[] {MIN, -1, 0, 63, 64, MAX});
        call("sold", LAMP, COINS);
        call("take", LAMP, new long[] {MIN, -1, 0, 8050, 15838, 99999, 100000, MAX});
        call("agree", LAMP);
        call("drift", LAMP, TO_2);
        call("paid", LAMP, TO_60);
        call("roll", LAMP, LAMP);
        call("can", HOME, new long[] {MIN, -1, 0, 1, 19, 20, MAX}, TO_2);
        call("best", new long[] {MIN, -1, 0, 1, 7, 8, 127, 255, 4095, 4096, MAX},
            new long[] {MIN, -1, 0, 20, 9999, 10000, MAX}, new long[] {MIN, -3, -2, -1, 0, 2, 3, 7, MAX});
    }

    private void callBooks() {
        call("broke", LAMP, SMALL, SMALL);
        call("cause");
        call("sell", LAMP, SMALL, DAY, DAY);
        call("whose", LAMP, DAY);
        call("hear", LAMP, DAY, TO_60);
        call("known", LAMP, DAY);
        call("act", LAMP, DAY, TO_2, X);
        call("trace", new long[] {MIN, -1, 0, 3, 4, 19, 20, MAX});
        call("taken", LAMP, DAY, KIND);
    }

    private void callTapes() {
        call("list", TAPE, AT, new long[] {MIN, -1, 0, 1, 20, 21, MAX});
        call("count", new long[] {MIN, -1, 0, 1, 2, 3, 4, 5, 6, 7, 8, 9, MAX});
        call("tape", TAPE, new long[] {MIN, -2, -1, 0, 3, 4, 5, MAX}, TO_60);
        call("item", TAPE, AT, new long[] {NO, -129, 0, 1, 32768, Long.MAX_VALUE});
        call("read", TAPE, AT);
        call("shift", TAPE, AT, TAPE, AT, new long[] {MIN, -1, 0, 1, 3, MAX});
    }

    /** Calls with every mix of the numbers. */
    private void call(String call, long[]... numbers) {
        int mixes = 1;
        for (long[] row : numbers) mixes *= row.length;
        long[] given = new long[numbers.length];
        for (int mix = 0; mix < mixes; mix++) {
            int rest = mix;
            for (int i = 0; i < numbers.length; i++) {
                given[i] = numbers[i][rest % numbers[i].length];
                rest /= numbers[i].length;
            }
            callOne(call, given);
        }
    }

    private void callOne(String call, long[] given) {
        String told = name + ": " + call + java.util.Arrays.toString(given);
        long answer = Script.call(x, call, given), due = Script.call(y, call, given);
        checks.due(told, answer, due);
        boolean isRefused = due == NO || due == NO + 1 || due >= -14 && due <= -11 || due >= -4 && due <= -1;
        boolean changesNothing = ASKING.contains(call) || isRefused && !changesAnyway(call, due);
        if (!changesNothing || answer != due) {
            makeAnew();
            return;
        }
        batch.add(told);
        if (batch.size() >= BATCH) endBatch();
    }

    /** An act ends the trace ahead of it, and a text with a fault is gone. */
    private static boolean changesAnyway(String call, long due) {
        return call.equals("act") || due <= -10 && (call.equals("text") || call.equals("tried"));
    }

    private void endBatch() {
        SunLamps fresh = new SunLamps();
        world.runUpTo(fresh, world.lines.size());
        String difference = Look.difference(Look.at(x, look), Look.at(fresh, look));
        checks.holds("nothing is changed by " + batch + ": " + difference, difference == null);
        look = (look + 1) % Look.LOOKS;
        makeAnew();
    }
}
