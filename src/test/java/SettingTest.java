/** Promises 1 and 4. */
public final class SettingTest {
    private static final int[] FIRST = {0, 0, 0, 1000, 1000, 1000, 1000, 0, 0, 0};
    private static final int[] LEAST = {0, 0, 0, 1, 1, 1, 1, 0, 0, 0};
    private static final int[] MOST = {2, 1, 1, 100000, 100000, 100000, 100000, 10000, 10000, 1};

    public static void main(String[] args) {
        Checks checks = new Checks();
        newObject(checks);
        bounds(checks);
        otherSettings(checks);
        checks.end();
    }

    private static void newObject(Checks checks) {
        checks.words("promise 1", "binding 0, way 0, blanks first 0, W 1000, H 1000, w 1000, h 1000, paper 0, limit 0, scaling 0");
        ImposeSheets x = new ImposeSheets();
        for (int what = 0; what < 10; what++) {
            checks.due("setting " + what + " at first", FIRST[what], x.setting(what, FIRST[what]));
        }
        checks.words("promise 1", "No scheme, no jobs;");
        checks.due("no tape", -1, x.scheme());
        checks.due("no pages that are not right", 0, x.broken());
        checks.dueThrow("no scheme", IllegalStateException.class, () -> x.run(1));
        checks.dueThrow("no jobs", IllegalStateException.class, () -> x.share(1, 0, 1));
        checks.dueThrow("nothing shared out", IndexOutOfBoundsException.class, () -> x.shared(-2, 0));
        checks.dueThrow("nothing laid", IndexOutOfBoundsException.class, () -> x.at(0, 0, 0, 0));
        for (int what = 0; what < 4; what++) {
            checks.due("laid " + what, 0, x.laid(what));
        }
        checks.due("the first job", 0, x.job(1));
        ImposeSheets other = new ImposeSheets();
        checks.due("another object has jobs of its own", 0, other.job(1));
        checks.due("and settings of its own", 0, other.setting(0, 2));
        checks.due("which are not the first one's", 0, x.setting(0, 0));
    }

    private static void bounds(Checks checks) {
        String[] words = {"0 binding (0 .. 2)", "1 the way that sheets are turned (0, 1)", "2 blanks first (0, 1)",
            "3 W, 4 H, 5 w, 6 h (1 .. 100000)", "3 W, 4 H, 5 w, 6 h (1 .. 100000)", "3 W, 4 H, 5 w, 6 h (1 .. 100000)",
            "3 W, 4 H, 5 w, 6 h (1 .. 100000)", "7 paper, 8 limit (0 .. 10000)", "7 paper, 8 limit (0 .. 10000)",
            "9 scaling (0, 1)"};
        for (int what = 0; what < 10; what++) {
            checks.words("promise 4", words[what]);
            boundsOf(checks, what);
        }
    }

    private static void boundsOf(Checks checks, int what) {
        ImposeSheets x = new ImposeSheets();
        int[] wrong = {LEAST[what] - 1, MOST[what] + 1, Integer.MIN_VALUE, Integer.MAX_VALUE};
        for (int v : wrong) {
            checks.dueThrow("setting " + what + " to " + v, IllegalArgumentException.class, () -> x.setting(what, v));
        }
        checks.due("setting " + what + " was not changed", FIRST[what], x.setting(what, MOST[what]));
        checks.due("setting " + what + " was its most", MOST[what], x.setting(what, LEAST[what]));
        checks.due("setting " + what + " was its least", LEAST[what], x.setting(what, FIRST[what]));
        for (int other = 0; other < 10; other++) {
            checks.due("setting " + other + " beside " + what, FIRST[other], x.setting(other, FIRST[other]));
        }
    }

    private static void otherSettings(Checks checks) {
        checks.words("promise 4", "IndexOutOfBoundsException for another what");
        int[] others = {-1, 10, 11, Integer.MIN_VALUE, Integer.MAX_VALUE};
        for (int what : others) {
            ImposeSheets x = new ImposeSheets();
            checks.dueThrow("setting " + what, IndexOutOfBoundsException.class, () -> x.setting(what, 0));
            checks.dueThrow("setting " + what + " to 1", IndexOutOfBoundsException.class, () -> x.setting(what, 1));
            checks.dueThrow("setting " + what + " to -1", IndexOutOfBoundsException.class, () -> x.setting(what, -1));
        }
    }
}
