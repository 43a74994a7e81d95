/** The edges that the document names of jobs and plates: its terms, and promises 11 to 14. */
public final class SharingEdgesTest {
    private static final Checks CHECKS = new Checks();
    private static final int[] NUMBERS_OF_WAYS = {1, 2, 5, 15, 52, 203, 877};

    public static void main(String[] args) {
        sheetsOfOnePlate();
        moreJobsThanSlots();
        fixedCost();
        theOrderOfWays();
        theFirstOfTheLeastCost();
        waysNotTaken();
        jobs();
        clear();
        bounds();
        theLeastCost();
        noJobs();
        allWays();
        howManyWays();
        howManyPlates();
        ofAJob();
        noneSuch();
        noneTaken();
        nothingSharedOut();
        theLatest();
        CHECKS.end();
    }

    private static ImposeSheets with(int... copies) {
        ImposeSheets x = new ImposeSheets();
        for (int wanted : copies) {
            x.job(wanted);
        }
        return x;
    }

    private static ImposeSheets ofOneCopy(int jobs) {
        ImposeSheets x = new ImposeSheets();
        for (int i = 0; i < jobs; i++) {
            x.job(1);
        }
        return x;
    }

    private static void dueIndex(String what, Checks.Call call) {
        CHECKS.dueThrow(what, IndexOutOfBoundsException.class, call);
    }

    private static String plates(ImposeSheets x, int jobs) {
        StringBuilder text = new StringBuilder();
        for (int job = 0; job < jobs; job++) {
            text.append(x.shared(job, 0));
        }
        return text.toString();
    }

    /** One way is looked at, so all jobs are on one plate. */
    private static void onePlate(int slots, int want, int... copies) {
        CHECKS.due(copies.length + " jobs, the first " + copies[0] + ", on " + slots, want, with(copies).share(slots, 0, 1));
    }

    private static void sheetsOfOnePlate() {
        CHECKS.words("terms", "the least number of sheets z for which the sum of (copies / z, upward) of its jobs is not above the slots");
        onePlate(1, 1, 1);
        onePlate(16, 1, 1);
        onePlate(1, 2, 2);
        onePlate(1, 100000, 100000);
        onePlate(16, 6250, 100000);
        onePlate(16, 1, 15);
        onePlate(16, 1, 16);
        onePlate(16, 2, 17);
        onePlate(16, 2, 32);
        onePlate(16, 3, 33);
        onePlate(2, 100000, 100000, 1);
        onePlate(3, 50000, 100000, 1);
        onePlate(3, 50000, 100000, 50000);
        onePlate(3, 50001, 100000, 50001);
        onePlate(8, 100000, 1, 1, 1, 1, 1, 1, 1, 100000);
        onePlate(9, 50000, 1, 1, 1, 1, 1, 1, 1, 100000);
        onePlate(16, 50000, 100000, 100000, 100000, 100000, 100000, 100000, 100000, 100000);
        onePlate(15, 100000, 100000, 100000, 100000, 100000, 100000, 100000, 100000, 100000);
    }

    private static void moreJobsThanSlots() {
        CHECKS.words("terms", "(none if it has more jobs than slots)");
        onePlate(1, -1, 1, 1);
        onePlate(2, 1, 1, 1);
        onePlate(2, -1, 1, 1, 1);
        onePlate(7, -1, 1, 1, 1, 1, 1, 1, 1, 1);
        onePlate(8, 1, 1, 1, 1, 1, 1, 1, 1, 1);
    }

    private static void fixedCost() {
        CHECKS.words("terms", "THE COST is the sheets of all plates, and a fixed cost for each.");
        CHECKS.due("one plate", 1 + 100000, with(1).share(1, 100000, 1000));
        ImposeSheets x = with(100000, 100000, 100000, 100000, 100000, 100000);
        CHECKS.due("six plates", 6 * 200000, x.share(1, 100000, 1000));
        CHECKS.due("six plates without a cost", 600000, x.share(1, 0, 1000));
    }

    private static void theOrderOfWays() {
        CHECKS.words("terms", "ways by the first job in which they differ, the lesser number first");
        // Each way to share out three jobs is cheaper than all before it: 25, 13 + 5, 8 + 9, 1 + 15, 1 + 9 + 5.
        ImposeSheets three = with(1, 25, 15);
        int[] costs = {25, 18, 17, 16, 15};
        String[] ways = {"000", "001", "010", "011", "012"};
        for (int i = 0; i < 5; i++) {
            CHECKS.due("of " + (i + 1) + " ways", costs[i], three.share(3, 0, i + 1));
            CHECKS.due("of " + (i + 1) + " ways", ways[i], plates(three, 3));
        }
        CHECKS.words("terms", "the first 0; the others 0 up to one more than the greatest before");
        ImposeSheets four = with(173, 194, 143, 123);
        int[] cost = {173, 168, 152, 149, 141, 162, 137, 136, 134, 158, 132, 130, 129, 136, 128};
        String[] way = {"0000", "0001", "0010", "0011", "0012", "0100", "0101", "0102", "0110", "0111", "0112", "0120",
            "0121", "0122", "0123"};
        int best = 0;
        for (int i = 0; i < cost.length; i++) {
            best = cost[i] < cost[best] ? i : best;
            CHECKS.due("of " + (i + 1) + " ways", cost[best], four.share(5, 0, i + 1));
            CHECKS.due("of " + (i + 1) + " ways", way[best], plates(four, 4));
        }
        ImposeSheets seven = with(1, 1, 1, 1, 1, 1, 1);
        CHECKS.due("the last way of seven jobs", 7, seven.share(1, 0, 877));
        CHECKS.due("the last way of seven jobs", "0123456", plates(seven, 7));
    }

    private static void theFirstOfTheLeastCost() {
        CHECKS.words("terms", "The first one of the least cost, of as many ways as may be looked at, is taken");
        ImposeSheets x = with(6, 6);
        CHECKS.due("6 together, 3 and 3 apart", 6, x.share(2, 0, 2));
        CHECKS.due("the first one", "00", plates(x, 2));
        ImposeSheets y = with(2, 2, 2);
        // Two slots: 2 + 1 for two together and one alone; three plates of 1 cost as much, too.
        CHECKS.due("three of two copies", 3, y.share(2, 0, 1000));
        CHECKS.due("the first one of three", "001", plates(y, 3));
        CHECKS.due("a cost of one each", 5, y.share(2, 1, 1000));
        CHECKS.due("the first one of two plates", "001", plates(y, 3));
        ImposeSheets one = with(5);
        CHECKS.due("the only way", 5, one.share(1, 0, 1));
        CHECKS.due("the only way", "0", plates(one, 1));
    }

    private static void waysNotTaken() {
        CHECKS.words("terms", "(ways in which some plate has more jobs than slots are looked at, too, and not taken)");
        ImposeSheets x = with(9, 2, 5);
        CHECKS.due("four ways with two jobs on a slot", -1, x.share(1, 0, 4));
        CHECKS.due("they were looked at", 4, x.shared(-2, 0));
        CHECKS.due("the fifth has one job on each", 16, x.share(1, 0, 5));
        CHECKS.due("all were looked at", 5, x.shared(-2, 0));
        CHECKS.due("it is taken", "012", plates(x, 3));
        CHECKS.due("two slots, the first way not taken", -1, x.share(2, 0, 1));
        CHECKS.due("two slots, the second way taken", 12, x.share(2, 0, 2));
    }

    private static void jobs() {
        CHECKS.words("promise 11", "A job of copies (1 .. 100000): its number.");
        ImposeSheets x = new ImposeSheets();
        for (int i = 0; i < 8; i++) {
            CHECKS.due("job", i, x.job(i % 2 == 0 ? 1 : 100000));
        }
        CHECKS.words("promise 11", "IllegalArgumentException;");
        int[] wrong = {0, -1, 100001, Integer.MIN_VALUE, Integer.MAX_VALUE};
        for (int copies : wrong) {
            ImposeSheets y = new ImposeSheets();
            CHECKS.dueThrow("job of " + copies, IllegalArgumentException.class, () -> y.job(copies));
            CHECKS.due("no job was made", 0, y.job(1));
            CHECKS.dueThrow("a ninth of " + copies, IllegalArgumentException.class, () -> x.job(copies));
        }
        CHECKS.words("promise 11", "UnsupportedOperationException when there are 8.");
        CHECKS.dueThrow("a ninth job", UnsupportedOperationException.class, () -> x.job(1));
        CHECKS.dueThrow("a ninth job once more", UnsupportedOperationException.class, () -> x.job(100000));
        CHECKS.due("the eight are shared out", 100000, x.share(8, 0, 1));
    }

    private static void clear() {
        CHECKS.words("promise 12", "There are no jobs; what was shared out is gone.");
        ImposeSheets x = ofOneCopy(8);
        x.share(8, 0, 1000);
        x.clear();
        for (int job = -4; job <= 8; job++) {
            int asked = job;
            dueIndex("shared " + job, () -> x.shared(asked, 0));
        }
        CHECKS.dueThrow("share", IllegalStateException.class, () -> x.share(1, 0, 1));
        for (int i = 0; i < 8; i++) {
            CHECKS.due("job once more", i, x.job(2));
        }
        dueIndex("jobs that were not shared out", () -> x.shared(0, 0));
        x.clear();
        x.clear();
        CHECKS.due("cleared twice", 0, x.job(4));
        CHECKS.due("the one job", 4, x.share(1, 0, 1000));
        CHECKS.due("its ways", 1, x.shared(-2, 0));
        ImposeSheets none = new ImposeSheets();
        none.clear();
        CHECKS.due("cleared when new", 0, none.job(1));
    }

    private static void bounds() {
        CHECKS.words("promise 13", "plates of slots (1 .. 16), each with a cost (0 .. 100000), looking at so many ways (1 .. 1000)");
        ImposeSheets x = with(16);
        CHECKS.due("the least of each", 16, x.share(1, 0, 1));
        CHECKS.due("16 slots", 1, x.share(16, 0, 1));
        CHECKS.due("a cost of 100000", 100016, x.share(1, 100000, 1));
        CHECKS.due("1000 ways", 16, x.share(1, 0, 1000));
        CHECKS.words("promise 13", "IllegalArgumentException;");
        int least = Integer.MIN_VALUE;
        int most = Integer.MAX_VALUE;
        int[][] wrong = {{0, 0, 1}, {-1, 0, 1}, {17, 0, 1}, {least, 0, 1}, {most, 0, 1}, {1, -1, 1}, {1, 100001, 1},
            {1, least, 1}, {1, most, 1}, {1, 0, 0}, {1, 0, -1}, {1, 0, 1001}, {1, 0, least}, {1, 0, most}};
        for (int[] w : wrong) {
            String text = "share " + w[0] + " " + w[1] + " " + w[2];
            CHECKS.dueThrow(text, IllegalArgumentException.class, () -> x.share(w[0], w[1], w[2]));
            CHECKS.dueThrow(text + " of none", IllegalArgumentException.class,
                    () -> new ImposeSheets().share(w[0], w[1], w[2]));
        }
        CHECKS.due("the latest sharing out stays", 16, x.shared(0, 2));
    }

    private static void theLeastCost() {
        CHECKS.words("promise 13", "the least cost; -1 when no way may be taken");
        CHECKS.due("the least that there is", 1, with(1).share(1, 0, 1));
        CHECKS.due("no way", -1, with(1, 1).share(1, 0, 1));
        CHECKS.due("no way, whatever the cost", -1, with(1, 1).share(1, 100000, 1));
        CHECKS.due("a way", 2, with(1, 1).share(1, 0, 2));
        CHECKS.due("eight jobs in one slot are told apart too late", -1, ofOneCopy(8).share(1, 0, 1000));
    }

    private static void noJobs() {
        CHECKS.words("promise 13", "IllegalStateException without jobs");
        ImposeSheets x = new ImposeSheets();
        CHECKS.dueThrow("new", IllegalStateException.class, () -> x.share(1, 0, 1));
        CHECKS.dueThrow("new", IllegalStateException.class, () -> x.share(16, 100000, 1000));
        x.job(1);
        CHECKS.due("one job", 1, x.share(1, 0, 1));
        x.clear();
        CHECKS.dueThrow("cleared", IllegalStateException.class, () -> x.share(1, 0, 1));
    }

    private static void allWays() {
        CHECKS.words("promise 14", "whether all ways were looked at (job = -1: 1, or 0)");
        for (int jobs = 1; jobs <= 7; jobs++) {
            int all = NUMBERS_OF_WAYS[jobs - 1];
            ImposeSheets x = ofOneCopy(jobs);
            x.share(8, 0, all);
            CHECKS.due("just all of " + jobs + " jobs", 1, x.shared(-1, 0));
            x.share(8, 0, 1000);
            CHECKS.due("more than all of " + jobs + " jobs", 1, x.shared(-1, 0));
            if (all > 1) {
                x.share(8, 0, all - 1);
                CHECKS.due("all but one of " + jobs + " jobs", 0, x.shared(-1, 0));
            }
        }
        ImposeSheets eight = ofOneCopy(8);
        eight.share(8, 0, 1000);
        CHECKS.due("eight jobs have more than 1000", 0, eight.shared(-1, 0));
    }

    private static void howManyWays() {
        CHECKS.words("promise 14", "how many were (-2)");
        for (int jobs = 1; jobs <= 7; jobs++) {
            int all = NUMBERS_OF_WAYS[jobs - 1];
            ImposeSheets x = ofOneCopy(jobs);
            x.share(8, 0, 1000);
            CHECKS.due("all of " + jobs + " jobs", all, x.shared(-2, 0));
            x.share(8, 0, all);
            CHECKS.due("just all of " + jobs + " jobs", all, x.shared(-2, 0));
            x.share(8, 0, 1);
            CHECKS.due("one of " + jobs + " jobs", 1, x.shared(-2, 0));
        }
        ImposeSheets eight = ofOneCopy(8);
        eight.share(1, 0, 1000);
        CHECKS.due("1000 of eight jobs, none of them taken", 1000, eight.shared(-2, 0));
        eight.share(8, 0, 999);
        CHECKS.due("999 of eight jobs", 999, eight.shared(-2, 0));
    }

    private static void howManyPlates() {
        CHECKS.words("promise 14", "how many plates (-3)");
        ImposeSheets eight = ofOneCopy(8);
        eight.share(16, 0, 1000);
        CHECKS.due("one", 1, eight.shared(-3, 0));
        ImposeSheets seven = ofOneCopy(7);
        seven.share(1, 0, 1000);
        CHECKS.due("seven", 7, seven.shared(-3, 0));
        seven.share(6, 0, 2);
        CHECKS.due("two", 2, seven.shared(-3, 0));
        // No what is named for what is told of all jobs, so that it may be any.
        int[] whats = {-1, 1, 3, Integer.MIN_VALUE, Integer.MAX_VALUE};
        for (int what : whats) {
            CHECKS.due("all ways, what " + what, 0, seven.shared(-1, what));
            CHECKS.due("ways, what " + what, 2, seven.shared(-2, what));
            CHECKS.due("plates, what " + what, 2, seven.shared(-3, what));
        }
    }

    private static void ofAJob() {
        CHECKS.words("promise 14", "its plate (what = 0), its slots (1: copies / sheets, upward), its plate's sheets (2)");
        ImposeSheets x = with(100000, 50001, 1);
        CHECKS.due("all on one plate", 50001, x.share(4, 0, 1));
        int[][] want = {{0, 2, 50001}, {0, 1, 50001}, {0, 1, 50001}};
        tell(x, want);
        CHECKS.due("each on a plate", 25000 + 12501 + 1, x.share(4, 0, 1000));
        tell(x, new int[][] {{0, 4, 25000}, {1, 4, 12501}, {2, 1, 1}});
        ImposeSheets exact = with(16, 8);
        CHECKS.due("16 and 8 on three slots", 8, exact.share(3, 0, 1));
        tell(exact, new int[][] {{0, 2, 8}, {0, 1, 8}});
    }

    private static void tell(ImposeSheets x, int[][] want) {
        for (int job = 0; job < want.length; job++) {
            for (int what = 0; what < 3; what++) {
                CHECKS.due("job " + job + " what " + what, want[job][what], x.shared(job, what));
            }
        }
    }

    private static void noneSuch() {
        CHECKS.words("promise 14", "IndexOutOfBoundsException when there is none such");
        for (int jobs = 1; jobs <= 8; jobs++) {
            ImposeSheets x = ofOneCopy(jobs);
            x.share(8, 0, 3);
            int[] others = {-4, -5, jobs, jobs + 1, 9, Integer.MIN_VALUE, Integer.MAX_VALUE};
            for (int job : others) {
                dueIndex("job " + job + " of " + jobs, () -> x.shared(job, 0));
            }
            int last = jobs - 1;
            int[] whats = {-1, 3, 4, Integer.MIN_VALUE, Integer.MAX_VALUE};
            for (int what : whats) {
                dueIndex("what " + what, () -> x.shared(last, what));
            }
            CHECKS.due("the last job's sheets", 1, x.shared(last, 2));
        }
        ImposeSheets x = with(3);
        x.share(1, 0, 1);
        x.job(4);
        dueIndex("a job behind the sharing out", () -> x.shared(1, 0));
        CHECKS.due("the one before it", 3, x.shared(0, 2));
    }

    private static void noneTaken() {
        CHECKS.words("promise 14", "when none was taken (but for -1 and -2)");
        ImposeSheets x = with(1, 1);
        CHECKS.due("two plates", 2, x.share(1, 0, 2));
        CHECKS.due("none is taken then", -1, x.share(1, 0, 1));
        dueIndex("plates", () -> x.shared(-3, 0));
        for (int job = 0; job < 2; job++) {
            int asked = job;
            dueIndex("plate of " + job, () -> x.shared(asked, 0));
            dueIndex("slots of " + job, () -> x.shared(asked, 1));
            dueIndex("sheets of " + job, () -> x.shared(asked, 2));
        }
        dueIndex("none such", () -> x.shared(-4, 0));
        CHECKS.due("not all", 0, x.shared(-1, 0));
        CHECKS.due("one way", 1, x.shared(-2, 0));
    }

    private static void nothingSharedOut() {
        CHECKS.words("promise 14", "or nothing was shared out");
        ImposeSheets none = new ImposeSheets();
        ImposeSheets jobs = with(1, 2);
        for (int job = -4; job <= 8; job++) {
            int asked = job;
            for (int what = 0; what < 3; what++) {
                int told = what;
                dueIndex("new, " + job, () -> none.shared(asked, told));
                dueIndex("two jobs, " + job, () -> jobs.shared(asked, told));
            }
        }
        CHECKS.dueThrow("a share that throws", IllegalArgumentException.class, () -> jobs.share(0, 0, 1));
        dueIndex("is none", () -> jobs.shared(-1, 0));
    }

    private static void theLatest() {
        CHECKS.words("promise 14", "Of the latest sharing out");
        ImposeSheets x = with(10, 5);
        x.share(2, 0, 1000);
        CHECKS.due("two plates", "01", plates(x, 2));
        x.share(2, 3, 1000);
        CHECKS.due("one plate", "00", plates(x, 2));
        x.job(7);
        CHECKS.due("one plate still", 1, x.shared(-3, 0));
        // 5 and 7 copies need 7 sheets together, and 3 + 4 apart, which is looked at later.
        CHECKS.due("three jobs", 5 + 7, x.share(2, 0, 1000));
        CHECKS.due("two plates of three jobs", "011", plates(x, 3));
    }
}
