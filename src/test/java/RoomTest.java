import com.sun.management.ThreadMXBean;
import java.lang.management.ManagementFactory;

/** Whole runs of 512 calls of the dearest sorts: what they make must stay far below the one room that a run has. */
public final class RoomTest {
    /** 7.3 million fields and elements are the room; a hundredth of it, at eight bytes each. */
    private static final long MOST_BYTES = 600_000;
    private static final int CALLS = 512;
    private static final ThreadMXBean THREADS = (ThreadMXBean) ManagementFactory.getThreadMXBean();
    private static final Checks checks = new Checks();

    private interface Call {
        void on(SunLamps x, int i);
    }

    public static void main(String[] args) {
        measure("lamps and homes", RoomTest::fill);
        measure("days", (x, i) -> x.pass(1 + i % 3));
        measure("texts", (x, i) -> {
            feed(x, "off ((((h=1))))|k=2&m=3|!c=4;run y;grace 3;fetch o>4");
            x.text(i % 600);
        });
        measure("texts with faults", (x, i) -> {
            feed(x, "off ((((h=1))))|k=2&m=3|!c=4;run y;grace 3;fetch o>");
            x.text(i % 600);
        });
        measure("tried", (x, i) -> {
            feed(x, "off ((((h=1))))|k=2&m=3|!c=4;run y;grace 3;fetch o>4");
            x.tried((1 << 20) - 1, 60);
        });
        measure("best", (x, i) -> x.best(127, 9000 + i, i % 7));
        measure("causes", (x, i) -> {
            x.broke(i % 20, i % 4, i / 4 % 4);
            x.cause();
        });
        measure("acts", (x, i) -> x.act(i % 20, i % 5, 2, i));
        measure("lists", (x, i) -> {
            x.tape(i % 6, 3, 60);
            x.list(i % 6, 0, 20);
        });
        measure("new objects", (x, i) -> new SunLamps());
        checks.end("RoomTest");
    }

    private static void fill(SunLamps x, int i) {
        x.home(i % 100, i % 7);
        x.lamp(i % 8, 900, 0);
        x.lend(i % 20, i % 12);
        x.month(i % 12, 0, i);
    }

    private static void feed(SunLamps x, String text) {
        for (int i = 0; i < text.length(); i++) x.feed(text.charAt(i), 1);
    }

    private static void measure(String what, Call call) {
        SunLamps x = new SunLamps();
        if (!what.startsWith("lamps")) for (int i = 0; i < 40; i++) fill(x, i);
        call.on(new SunLamps(), 0);
        long before = THREADS.getThreadAllocatedBytes(Thread.currentThread().getId());
        for (int i = 0; i < CALLS; i++) call.on(x, i);
        long made = THREADS.getThreadAllocatedBytes(Thread.currentThread().getId()) - before;
        long most = what.startsWith("new") ? 20 * MOST_BYTES : MOST_BYTES;
        System.out.println(what + ": " + made + " bytes in " + CALLS + " calls");
        checks.holds(what + " make at most " + most + " bytes", made <= most);
    }
}
