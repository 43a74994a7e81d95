/** Promises 1 and 4. */
public final class SettingTest {
    private static final int[] FIRST = {0, 0, 0, 1000, 1000, 1000, 1000, 0, 0, 0};
    private static final int[] LEAST = {0, 0, 0, 1, 1, 1, 1, 0, 0, 0};
    private static final int[] MOST = {2, 1, 1, 100000, 100000, 100000, 100000, 10000, 10000, 1};

    public static void main(String[] args) {
        Checks checks = new Checks();
        newObject(checks);
        for (int what = 0; what < 10; what++) {
            bounds(checks, what);
        }
        int[] others = {-1, 10, Integer.MIN_VALUE, Integer.MAX_VALUE};
        for (int what : others) {
            ImposeSheets x = new ImposeSheets();
            checks.dueThrow("setting " + what, IndexOutOfBoundsException.class, () -> x.setting(what, 0));
            checks.dueThrow("setting " + what + " to -1", IndexOutOfBoundsException.class, () -> x.setting(what, -1));
        }
        checks.end();
    }

    private static void newObject(Checks checks) {
        ImposeSheets x = new ImposeSheets();
        for (int what = 0; what < 10; what++) {
            checks.due("setting " + what + " at first", FIRST[what], x.setting(what, FIRST[what]));
        }
        checks.due("no tape", -1, x.scheme());
        checks.dueThrow("no scheme", IllegalStateException.class, () -> x.run(1));
        checks.dueThrow("no jobs", IllegalStateException.class, () -> x.share(1, 0, 1));
        checks.dueThrow("nothing shared out", IndexOutOfBoundsException.class, () -> x.shared(-2, 0));
        for (int what = 0; what < 4; what++) {
            checks.due("laid " + what, 0, x.laid(what));
        }
        checks.due("the first job", 0, x.job(1));
    }

    private static void bounds(Checks checks, int what) {
        ImposeSheets x = new ImposeSheets();
        int[] wrong = {LEAST[what] - 1, MOST[what] + 1, Integer.MIN_VALUE, Integer.MAX_VALUE};
        for (int v : wrong) {
            checks.dueThrow("setting " + what + " to " + v, IllegalArgumentException.class, () -> x.setting(what, v));
        }
        checks.due("setting " + what + " was not changed", FIRST[what], x.setting(what, MOST[what]));
        checks.due("setting " + what + " was its most", MOST[what], x.setting(what, LEAST[what]));
        checks.due("setting " + what + " was its least", LEAST[what], x.setting(what, FIRST[what]));
        for (int other = 0; other < 10; other++) {
            checks.due("setting " + other + " beside " + what, FIRST[other], x.setting(other, FIRST[other]));
        }
    }
}
