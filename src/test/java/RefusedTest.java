import java.util.function.Supplier;
import java.util.function.ToLongFunction;

/**
 * "A call that throws changes nothing; where several exceptions that a call names fit, it is the one that it names
 * first." Each refused call is made on an object, and all that can be seen of it afterwards is compared with what is
 * seen of a twin that had the same calls but the refused one.
 */
public final class RefusedTest {
    private static final Checks CHECKS = new Checks();
    private static final int LEAST = Integer.MIN_VALUE;
    private static final int MOST = Integer.MAX_VALUE;
    private static final String INDEX = "throws.IndexOutOfBoundsException";
    private static final String ARGUMENT = "throws.IllegalArgumentException";
    private static final String STATE = "throws.IllegalStateException";
    private static final String UNSUPPORTED = "throws.UnsupportedOperationException";

    private final String name;
    private final Supplier<ImposeSheets> make;
    private final String seenOfTwin;

    private RefusedTest(String name, Supplier<ImposeSheets> make) {
        this.name = name;
        this.make = make;
        seenOfTwin = seen(make.get());
    }

    public static void main(String[] args) {
        RefusedTest fresh = new RefusedTest("a new object", ImposeSheets::new);
        RefusedTest laid = new RefusedTest("an object with all", RefusedTest::withAll);
        RefusedTest full = new RefusedTest("a full object", RefusedTest::full);
        RefusedTest[] all = {fresh, laid, full};
        CHECKS.due("what is seen differs", false, laid.seenOfTwin.equals(full.seenOfTwin));
        for (RefusedTest one : all) {
            one.wrongTypes();
            one.wrongSettings();
            one.wrongPlaces();
            one.wrongJobs();
            one.wrongShares();
            one.wrongShared();
        }
        fresh.nothingIsThere();
        laid.tooMany();
        full.fullTape();
        full.wrongRuns();
        wrongSchemes();
        laid.calledToTell();
        clearWithoutJobs();
        CHECKS.end();
    }

    /** A tape that lacks its last byte, a told scheme, other settings, two sheets laid, three jobs shared out. */
    private static ImposeSheets withAll() {
        ImposeSheets x = withAllButATape();
        Checks.typeAll(x, "1x2B=3,2!/4,1");
        return x;
    }

    private static ImposeSheets withAllButATape() {
        ImposeSheets x = Checks.with("2x2RB=7,6,2!,3!/1,4,8!,5!",
                0, 1, 1, 1, 2, 1, 3, 700, 4, 800, 5, 900, 6, 750, 7, 1500, 8, 3, 9, 1);
        CHECKS.due("sheets of an object with all", 2, x.run(13));
        x.job(10);
        x.job(5);
        x.job(7);
        x.share(3, 1, 4);
        return x;
    }

    /** 200 bytes, 8 jobs in a sharing out that took no way, and a scheme told wrong behind what is laid. */
    private static ImposeSheets full() {
        ImposeSheets x = Checks.with("3x1", 0, 2, 7, 10000, 8, 10000);
        CHECKS.due("sheets of a full object", 2, x.run(9));
        Checks.scheme(x, "2x1R=3,2/4,1");
        for (int i = 0; i < 8; i++) {
            x.job(1 + i * 1000);
        }
        x.share(1, 100000, 1000);
        Checks.typeAll(x, "2x1R=3,2/1,4");
        for (int i = 0; i < 188; i += 4) {
            x.type(0, 4);
        }
        return x;
    }

    /** First all that is only read, then what changing calls answer; at most 460 calls. */
    private static String seen(ImposeSheets x) {
        StringBuilder text = new StringBuilder();
        for (int what = 0; what < 4; what++) {
            int asked = what;
            tell(text, () -> x.laid(asked));
        }
        seeLaid(text, x);
        tell(text, () -> x.broken());
        for (int job = -3; job < 8; job++) {
            int asked = job;
            for (int what = 0; what < 3; what++) {
                int told = what;
                tell(text, () -> x.shared(asked, told));
            }
        }
        tell(text, () -> x.run(5));
        seeLaid(text, x);
        for (int what = 0; what < 10; what++) {
            int asked = what;
            tell(text, () -> x.setting(asked, asked == 7 || asked == 8 ? 1000 : 1));
        }
        tell(text, () -> x.run(3));
        tell(text, () -> x.job(11));
        tell(text, () -> x.share(3, 0, 50));
        for (int job = 0; job < 4; job++) {
            int asked = job;
            tell(text, () -> x.shared(asked, 0));
            tell(text, () -> x.shared(asked, 2));
        }
        tell(text, () -> x.type('!', 1) ? 1 : 0);
        tell(text, () -> x.scheme());
        tell(text, () -> x.broken());
        return text.toString();
    }

    private static void seeLaid(StringBuilder text, ImposeSheets x) {
        int sheets = x.laid(0);
        int pages = x.laid(1);
        for (int spot = 0; spot < sheets * pages; spot++) {
            int sheet = spot / pages;
            int side = spot % pages / (pages / 2);
            int i = spot % (pages / 2);
            for (int what = 0; what < 4; what++) {
                int asked = what;
                tell(text, () -> x.at(sheet, side, i, asked));
            }
        }
        for (int i = 0; i <= sheets * pages; i++) {
            int asked = i;
            tell(text, () -> x.fold(asked));
            tell(text, () -> x.creep(asked));
        }
        tell(text, () -> x.at(0, 0, 0, 4));
    }

    private static void tell(StringBuilder text, Checks.Call call) {
        text.append(Checks.outcome(call)).append(' ');
    }

    private void refused(String call, String want, ToLongFunction<ImposeSheets> refused) {
        ImposeSheets x = make.get();
        CHECKS.due(name + ": " + call, want, Checks.outcome(() -> refused.applyAsLong(x)));
        CHECKS.due(name + ": what is seen behind " + call, seenOfTwin, seen(x));
    }

    private void wrongTypes() {
        int[] wrong = {0, -1, 9, LEAST, MOST};
        for (int n : wrong) {
            refused("type of " + n, "0", x -> x.type(Checks.packed("11111111"), n) ? 1 : 0);
        }
    }

    private void wrongSettings() {
        int[] others = {-1, 10, LEAST, MOST};
        for (int what : others) {
            refused("setting " + what, INDEX, x -> x.setting(what, 1));
            refused("setting " + what + " to -1", INDEX, x -> x.setting(what, -1));
        }
        int[] least = {0, 0, 0, 1, 1, 1, 1, 0, 0, 0};
        int[] most = {2, 1, 1, 100000, 100000, 100000, 100000, 10000, 10000, 1};
        for (int what = 0; what < 10; what++) {
            int asked = what;
            int[] wrong = {least[what] - 1, most[what] + 1, LEAST, MOST};
            for (int v : wrong) {
                refused("setting " + what + " to " + v, ARGUMENT, x -> x.setting(asked, v));
            }
        }
        int[] wrongPages = {0, -1, LEAST};
        for (int n : wrongPages) {
            refused("run of " + n, ARGUMENT, x -> x.run(n));
        }
    }

    private void wrongPlaces() {
        int[] wrong = {-1, 17, LEAST, MOST};
        for (int v : wrong) {
            refused("sheet " + v, INDEX, x -> x.at(v, 0, 0, 0));
            refused("side " + v, INDEX, x -> x.at(0, v, 0, 0));
            refused("place " + v, INDEX, x -> x.at(0, 0, v, 0));
            refused("what " + v, INDEX, x -> x.at(0, 0, 0, v));
            refused("fold " + v, INDEX, x -> x.fold(v));
            refused("creep " + v, INDEX, x -> x.creep(v));
            refused("laid " + v, INDEX, x -> x.laid(v));
        }
        refused("creep 0", INDEX, x -> x.creep(0));
    }

    private void wrongJobs() {
        int[] wrong = {0, -1, 100001, LEAST, MOST};
        for (int copies : wrong) {
            refused("job of " + copies, ARGUMENT, x -> x.job(copies));
        }
    }

    private void wrongShares() {
        int[][] wrong = {{0, 0, 1}, {17, 0, 1}, {LEAST, 0, 1}, {MOST, 0, 1}, {1, -1, 1}, {1, 100001, 1}, {1, LEAST, 1},
            {1, MOST, 1}, {1, 0, 0}, {1, 0, 1001}, {1, 0, LEAST}, {1, 0, MOST}};
        for (int[] w : wrong) {
            refused("share " + w[0] + " " + w[1] + " " + w[2], ARGUMENT, x -> x.share(w[0], w[1], w[2]));
        }
    }

    private void wrongShared() {
        int[] wrong = {-4, 8, LEAST, MOST};
        for (int job : wrong) {
            refused("shared " + job, INDEX, x -> x.shared(job, 0));
        }
        int[] whats = {-1, 3, LEAST, MOST};
        for (int what : whats) {
            refused("shared 0 of " + what, INDEX, x -> x.shared(0, what));
        }
    }

    private void nothingIsThere() {
        refused("run of 1", STATE, x -> x.run(1));
        refused("run of most", STATE, x -> x.run(MOST));
        refused("share", STATE, x -> x.share(16, 100000, 1000));
        refused("at", INDEX, x -> x.at(0, 0, 0, 0));
        refused("fold", INDEX, x -> x.fold(0));
        refused("creep", INDEX, x -> x.creep(1));
        for (int job = -3; job < 2; job++) {
            int asked = job;
            refused("shared " + job, INDEX, x -> x.shared(asked, 0));
        }
        refused("a scheme of nothing", "-1", x -> x.scheme());
        refused("broken", "0", x -> x.broken());
    }

    private void tooMany() {
        refused("run of 161", ARGUMENT, x -> x.run(161));
        refused("run of most", ARGUMENT, x -> x.run(MOST));
        refused("sheet 2 of 2", INDEX, x -> x.at(2, 0, 0, 0));
        refused("side 2", INDEX, x -> x.at(0, 2, 0, 0));
        refused("place 4 of 4", INDEX, x -> x.at(0, 0, 4, 0));
        refused("what 5", INDEX, x -> x.at(0, 0, 0, 5));
        refused("fold 16 of 16", INDEX, x -> x.fold(16));
        refused("creep 14 of 13", INDEX, x -> x.creep(14));
        refused("laid 4", INDEX, x -> x.laid(4));
        refused("job 3 of 3", INDEX, x -> x.shared(3, 0));
    }

    private void fullTape() {
        for (int n = 1; n <= 8; n++) {
            int asked = n;
            refused("type " + n + " more", "0", x -> x.type(Checks.packed("11111111"), asked) ? 1 : 0);
        }
        refused("a ninth job", UNSUPPORTED, x -> x.job(1));
        refused("plates when none was taken", INDEX, x -> x.shared(-3, 0));
        refused("a job when none was taken", INDEX, x -> x.shared(7, 2));
    }

    /** The full object's sheets fold, but its binding is stacking; with another one its pages are not right. */
    private void wrongRuns() {
        refused("run of folded sheets stacked", STATE, x -> x.run(80));
        refused("run of folded sheets stacked, too many", ARGUMENT, x -> x.run(81));
        RefusedTest toldWrong = new RefusedTest("pages told wrong", () -> {
            ImposeSheets x = full();
            x.setting(0, 1);
            return x;
        });
        toldWrong.refused("run of pages told wrong", "0", x -> x.run(80));
        toldWrong.refused("run of too many pages told wrong", ARGUMENT, x -> x.run(81));
        RefusedTest cut = new RefusedTest("a cut sheet gathered", () -> Checks.with("2x2=1,1,1,1/1,1,1,1"));
        cut.refused("run of cut sheets gathered", STATE, x -> x.run(160));
        cut.refused("run of cut sheets gathered, too many", ARGUMENT, x -> x.run(161));
    }

    /** A scheme that is not taken empties the tape, and changes nothing else. */
    private static void wrongSchemes() {
        RefusedTest laid = new RefusedTest("a wrong scheme", RefusedTest::withAllButATape);
        String[] texts = {"", "Z", "9x1", "2x", "2x9", "2x1T", "2x1RRRRRRR", "1x2B=3,2!/4,1!,", "1x2B=3,2!/4,5", "1x2Z"};
        for (String text : texts) {
            laid.refused("scheme " + text, "1", x -> Checks.scheme(x, text) < 0 ? 1 : 0);
        }
    }

    /** Calls that only tell something change nothing, either. */
    private void calledToTell() {
        refused("broken", "0", x -> x.broken());
        refused("laid", "2", x -> x.laid(0));
        refused("at of a page", "11", x -> x.at(0, 0, 1, 0));
        refused("at of a blank place", "0", x -> x.at(0, 1, 0, 0));
        refused("fold of a blank place", "0", x -> x.fold(0));
        refused("creep", "0", x -> x.creep(13));
        refused("shared", "4", x -> x.shared(-2, 0));
    }

    private static void clearWithoutJobs() {
        RefusedTest laid = new RefusedTest("no jobs", () -> {
            ImposeSheets x = withAll();
            x.clear();
            return x;
        });
        laid.refused("clear once more", "0", x -> {
            x.clear();
            return 0;
        });
        ImposeSheets cleared = withAll();
        cleared.clear();
        StringBuilder before = new StringBuilder();
        StringBuilder after = new StringBuilder();
        seeLaid(before, withAll());
        seeLaid(after, cleared);
        CHECKS.due("what is laid behind clear", before.toString(), after.toString());
        CHECKS.due("the tape behind clear", true, cleared.type('!', 1));
        CHECKS.due("the tape behind clear", 2, cleared.scheme());
    }
}
