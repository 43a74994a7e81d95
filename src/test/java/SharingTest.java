/** Promises 11 to 14, worked out by hand. */
public final class SharingTest {
    private static final Checks CHECKS = new Checks();

    public static void main(String[] args) {
        jobs();
        clear();
        onePlateOrTwo();
        theFirstOfTheLeast();
        someWaysOnly();
        noWayTaken();
        wrongShares();
        wrongShared();
        theLatestSharingStays();
        CHECKS.end();
    }

    private static ImposeSheets with(int... copies) {
        ImposeSheets x = new ImposeSheets();
        for (int i = 0; i < copies.length; i++) {
            CHECKS.due("job " + i, i, x.job(copies[i]));
        }
        return x;
    }

    private static void job(ImposeSheets x, int job, int plate, int slots, int sheets) {
        CHECKS.due("plate of job " + job, plate, x.shared(job, 0));
        CHECKS.due("slots of job " + job, slots, x.shared(job, 1));
        CHECKS.due("sheets of job " + job, sheets, x.shared(job, 2));
    }

    private static void ways(ImposeSheets x, int all, int looked, int plates) {
        CHECKS.due("all ways", all, x.shared(-1, 0));
        CHECKS.due("ways", looked, x.shared(-2, 0));
        CHECKS.due("plates", plates, x.shared(-3, 0));
    }

    private static void jobs() {
        ImposeSheets x = with(1, 100000, 3, 4, 5, 6, 7);
        int[] wrong = {0, -1, 100001, Integer.MIN_VALUE, Integer.MAX_VALUE};
        for (int copies : wrong) {
            CHECKS.dueThrow("job of " + copies, IllegalArgumentException.class, () -> x.job(copies));
        }
        CHECKS.due("the eighth job", 7, x.job(8));
        CHECKS.dueThrow("a ninth job", UnsupportedOperationException.class, () -> x.job(9));
        CHECKS.dueThrow("a ninth job of 0", IllegalArgumentException.class, () -> x.job(0));
    }

    private static void clear() {
        ImposeSheets x = with(10, 5);
        x.share(2, 0, 10);
        x.clear();
        CHECKS.dueThrow("cleared, all ways", IndexOutOfBoundsException.class, () -> x.shared(-1, 0));
        CHECKS.dueThrow("cleared, a job", IndexOutOfBoundsException.class, () -> x.shared(0, 0));
        CHECKS.dueThrow("cleared, share", IllegalStateException.class, () -> x.share(1, 1, 1));
        CHECKS.due("the first job behind it", 0, x.job(3));
        CHECKS.due("shared out", 3, x.share(1, 0, 1));
        job(x, 0, 0, 1, 3);
    }

    private static void onePlateOrTwo() {
        ImposeSheets x = with(10, 5);
        CHECKS.due("without a cost", 8, x.share(2, 0, 1000));
        ways(x, 1, 2, 2);
        job(x, 0, 0, 2, 5);
        job(x, 1, 1, 2, 3);
        CHECKS.due("with a cost", 13, x.share(2, 3, 1000));
        ways(x, 1, 2, 1);
        job(x, 0, 0, 1, 10);
        job(x, 1, 0, 1, 10);
        CHECKS.due("three slots", 5, x.share(3, 0, 1000));
        job(x, 0, 0, 2, 5);
        job(x, 1, 0, 1, 5);
        CHECKS.due("the greatest cost", 100005, x.share(3, 100000, 1000));
        ImposeSheets one = with(100000);
        CHECKS.due("one job in one slot", 100000, one.share(1, 0, 1));
        ways(one, 1, 1, 1);
        CHECKS.due("one job in sixteen slots", 6250 + 7, one.share(16, 7, 1));
        job(one, 0, 0, 16, 6250);
    }

    private static void theFirstOfTheLeast() {
        // 6 and 6 on one plate of two slots need 6; apart 3 each: as much, but looked at later.
        ImposeSheets x = with(6, 6);
        CHECKS.due("as dear", 6, x.share(2, 0, 1000));
        ways(x, 1, 2, 1);
        // Two slots: 0,0,1 needs 9 + 3; 0,1,0 needs 9 + 1; 0,1,1 needs 5 + 5; 0,1,2 needs 5 + 1 + 3.
        ImposeSheets y = with(9, 2, 5);
        CHECKS.due("three jobs", 9, y.share(2, 0, 1000));
        ways(y, 1, 5, 3);
        CHECKS.due("with a cost of one", 12, y.share(2, 1, 1000));
        ways(y, 1, 5, 2);
        job(y, 0, 0, 1, 9);
        job(y, 1, 1, 2, 1);
        job(y, 2, 0, 1, 9);
    }

    private static void someWaysOnly() {
        ImposeSheets y = with(9, 2, 5);
        CHECKS.due("two ways", 12, y.share(2, 0, 2));
        ways(y, 0, 2, 2);
        job(y, 0, 0, 1, 9);
        job(y, 1, 0, 1, 9);
        job(y, 2, 1, 2, 3);
        CHECKS.due("three ways", 10, y.share(2, 0, 3));
        ways(y, 0, 3, 2);
        CHECKS.due("four ways", 10, y.share(2, 0, 4));
        ways(y, 0, 4, 2);
        job(y, 1, 1, 2, 1);
        CHECKS.due("five ways", 9, y.share(2, 0, 5));
        ways(y, 1, 5, 3);
        ImposeSheets seven = with(1, 2, 3, 4, 5, 6, 7);
        seven.share(8, 0, 1000);
        ways(seven, 1, 877, seven.shared(-3, 0));
        seven.share(8, 0, 876);
        CHECKS.due("not all", 0, seven.shared(-1, 0));
        seven.share(8, 0, 877);
        CHECKS.due("just all", 1, seven.shared(-1, 0));
        seven.job(8);
        seven.share(8, 0, 1000);
        ways(seven, 0, 1000, seven.shared(-3, 0));
    }

    private static void noWayTaken() {
        ImposeSheets y = with(9, 2, 5);
        CHECKS.due("one slot, four ways", -1, y.share(1, 0, 4));
        CHECKS.due("not all", 0, y.shared(-1, 0));
        CHECKS.due("four", 4, y.shared(-2, 0));
        CHECKS.dueThrow("no plates", IndexOutOfBoundsException.class, () -> y.shared(-3, 0));
        CHECKS.dueThrow("no plate of a job", IndexOutOfBoundsException.class, () -> y.shared(0, 0));
        CHECKS.due("one slot, five ways", 16, y.share(1, 0, 5));
        ways(y, 1, 5, 3);
    }

    private static void wrongShares() {
        ImposeSheets none = new ImposeSheets();
        ImposeSheets x = with(10, 5);
        x.share(2, 0, 1000);
        int[][] wrong = {{0, 0, 1}, {17, 0, 1}, {1, -1, 1}, {1, 100001, 1}, {1, 0, 0}, {1, 0, 1001},
            {Integer.MIN_VALUE, 0, 1}, {1, Integer.MAX_VALUE, 1}, {1, 0, Integer.MIN_VALUE}};
        for (int[] w : wrong) {
            String text = "share " + w[0] + " " + w[1] + " " + w[2];
            CHECKS.dueThrow(text, IllegalArgumentException.class, () -> x.share(w[0], w[1], w[2]));
            CHECKS.dueThrow(text + " of none", IllegalArgumentException.class, () -> none.share(w[0], w[1], w[2]));
        }
        CHECKS.dueThrow("share of none", IllegalStateException.class, () -> none.share(1, 0, 1));
        ways(x, 1, 2, 2);
        job(x, 1, 1, 2, 3);
    }

    private static void wrongShared() {
        ImposeSheets x = with(10, 5);
        for (int job = -4; job < 3; job++) {
            int asked = job;
            CHECKS.dueThrow("nothing shared out, " + job, IndexOutOfBoundsException.class, () -> x.shared(asked, 0));
        }
        x.share(2, 0, 1000);
        int[] jobs = {-4, 2, 8, Integer.MIN_VALUE, Integer.MAX_VALUE};
        for (int job : jobs) {
            CHECKS.dueThrow("shared " + job, IndexOutOfBoundsException.class, () -> x.shared(job, 0));
        }
        int[] whats = {-1, 3, Integer.MIN_VALUE, Integer.MAX_VALUE};
        for (int what : whats) {
            CHECKS.dueThrow("shared(0, " + what + ")", IndexOutOfBoundsException.class, () -> x.shared(0, what));
        }
    }

    private static void theLatestSharingStays() {
        ImposeSheets x = with(10, 5);
        x.share(2, 0, 1000);
        CHECKS.due("a job behind the sharing", 2, x.job(7));
        CHECKS.dueThrow("it was not shared out", IndexOutOfBoundsException.class, () -> x.shared(2, 0));
        ways(x, 1, 2, 2);
        job(x, 0, 0, 2, 5);
        job(x, 1, 1, 2, 3);
    }
}
