/** Counts the answers that are not the due ones, and tells of each. */
final class Checks {
    private int checked = 0;
    private int wrong = 0;

    void due(String call, long got, long want) {
        checked++;
        if (got == want) return;
        wrong++;
        System.out.println(call + " answered " + got + ", due is " + want);
    }

    void holds(String what, boolean so) {
        checked++;
        if (so) return;
        wrong++;
        System.out.println("does not hold: " + what);
    }

    /** Tells how it went, and ends with exit code 1 if anything was wrong. */
    void end(String name) {
        System.out.println(name + ": " + checked + " checked, " + wrong + " wrong");
        if (wrong != 0 || checked == 0) System.exit(1);
    }
}
