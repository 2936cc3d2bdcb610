import java.util.ArrayList;
import java.util.List;

/**
 * Looks at all that an object shows, so that two objects can be told apart: some looks only ask, others call on and
 * see what comes of it. Each is for an object of its own, and short, as an object is promised for 512 calls alone.
 */
final class Look {
    static final int LOOKS = 7;

    private final Object x;
    final List<String> calls = new ArrayList<>();
    final List<Long> answers = new ArrayList<>();

    private Look(Object x) {
        this.x = x;
    }

    static Look at(Object x, int which) {
        Look look = new Look(x);
        switch (which) {
            case 0: look.atNumbers(); break;
            case 1: look.atLamps(); break;
            case 2: look.atTerms(); break;
            case 3: look.atCodes(); break;
            case 4: look.atDays(); break;
            case 5: look.atTapes(); break;
            default: look.atBooks(); break;
        }
        return look;
    }

    /** The first call that two objects answer in two ways, or null. */
    static String difference(Look a, Look b) {
        for (int i = 0; i < a.answers.size() && i < b.answers.size(); i++) {
            boolean isSame = a.calls.get(i).equals(b.calls.get(i)) && a.answers.get(i).equals(b.answers.get(i));
            if (!isSame) return a.calls.get(i) + " answers " + a.answers.get(i) + " and " + b.answers.get(i);
        }
        return a.answers.size() == b.answers.size() ? null : "other calls";
    }

    private long ask(String name, long... given) {
        long answer = Script.call(x, name, given);
        calls.add(name + java.util.Arrays.toString(given));
        answers.add(answer);
        return answer;
    }

    private void say(String text) {
        for (int i = 0; i < text.length(); i++) ask("feed", text.charAt(i), 1);
    }

    private void atNumbers() {
        for (int what = 0; what <= 8; what++) ask("count", what);
        for (int i = 0; i <= 11; i++) ask("trace", i);
        ask("cause");
        int homes = (int) ask("count", 1), told = (1 << Math.min(7, homes)) - 1;
        for (int i = -2; i < 2; i++) ask("best", told, 9999, i);
        for (int home = 0; home < homes; home++) {
            for (int month = 0; month < 3; month++) {
                ask("can", home, month, 0);
                ask("can", home, month, 1);
            }
        }
        for (int home = 0; home < homes; home++) {
            for (int month : new int[] {0, 1, 2, 19}) ask("month", home, month, 0);
        }
    }

    private void atLamps() {
        int lamps = (int) ask("count", 2);
        for (int lamp = 0; lamp < lamps; lamp++) {
            for (int what = 0; what <= 10; what++) ask("of", lamp, what);
        }
    }

    private void askTerms(int today) {
        for (int day : new int[] {0, today, 599}) {
            for (int word = 0; word <= 4; word++) {
                ask("force", word, day, 0, 5);
                ask("why", word, day, 5);
            }
        }
    }

    private void atTerms() {
        int today = (int) ask("count", 0);
        askTerms(today);
        ask("text", today);
        askTerms(today);
        ask("tried", 1, 3);
        ask("home", 7, 7);
        ask("lamp", 3, 77, 7);
    }

    private void atCodes() {
        int lamps = (int) ask("count", 2);
        for (int lamp = 0; lamp < lamps; lamp++) {
            ask("drift", lamp, 0);
            ask("agree", lamp);
            ask("sold", lamp, 5);
            int low = (int) ask("of", lamp, 8);
            ask("take", lamp, (7919 * (lamp + 1) + 131 * 3 + 17 * low * low + low) % 100000);
            ask("agree", lamp);
            ask("paid", lamp, 1);
            ask("of", lamp, 0);
            ask("roll", lamp, (lamp + 1) % lamps);
            ask("of", lamp, 6);
        }
    }

    private void atDays() {
        int lamps = (int) ask("count", 2), today = (int) ask("count", 0);
        for (int lamp = 0; lamp < lamps; lamp++) {
            for (int day : new int[] {0, today - 2, today - 1}) ask("kind", lamp, day);
        }
        int now = (int) ask("pass", 3) - 1;
        for (int lamp = 0; lamp < lamps; lamp++) {
            for (int day = today; day <= now; day++) ask("kind", lamp, day);
            ask("of", lamp, 2);
            ask("of", lamp, 3);
            ask("of", lamp, 10);
        }
    }

    private void readTapes() {
        for (int tape = 0; tape < 6; tape++) {
            for (int i : new int[] {0, 1, 2, 3, 4, 58, 59, 60}) ask("read", tape, i);
        }
    }

    private void atTapes() {
        readTapes();
        for (int tape = 0; tape < 6; tape++) {
            ask("shift", tape, 0, (tape + 1) % 6, 1, 1);
            ask("list", tape, 0, 3);
            ask("item", tape, 0, 515L);
        }
        readTapes();
    }

    private void atBooks() {
        int lamps = (int) ask("count", 2), today = (int) ask("count", 0);
        for (int lamp = 0; lamp < lamps; lamp++) {
            for (int day : new int[] {0, 5, 599}) ask("whose", lamp, day);
            for (int day : new int[] {today, 599}) ask("known", lamp, day);
        }
        for (int lamp = 0; lamp < lamps; lamp++) {
            ask("move", lamp, lamp % 3);
            ask("lend", lamp, 0);
            ask("broke", lamp, 1, 2);
        }
        ask("cause");
        ask("sell", 0, 1, 5, 5);
        ask("whose", 0, 5);
        ask("hear", 0, 0, 0);
        ask("known", 0, 5);
        say("off h<9");
        ask("tried", 0, 1);
    }
}
