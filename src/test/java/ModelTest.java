import java.util.ArrayList;
import java.util.List;
import java.util.Random;

/** Long runs of calls, by fixed seeds, on the class and on the plain model: each answer must be the same. */
public final class ModelTest {
    private static final int RUNS = 300;
    private static final int CALLS = 500;
    private static final Checks CHECKS = new Checks();
    private static final int[] EDGES = {Integer.MIN_VALUE, Integer.MAX_VALUE, -1, 0, 1, 100000, 100001, 641};

    private final Random random;
    private final ImposeSheets sheets = new ImposeSheets();
    private final PlainModel model = new PlainModel();
    private final List<String> done = new ArrayList<>();

    private ModelTest(long seed) {
        random = new Random(seed);
    }

    public static void main(String[] args) {
        everyFolding();
        for (int run = 0; run < RUNS && CHECKS.wrongCount() == 0; run++) {
            new ModelTest(run).go();
        }
        CHECKS.end();
    }

    /** Every size and every row of up to six folds, found and then told, turned both ways. */
    private static void everyFolding() {
        List<String> rows = new ArrayList<>(List.of(""));
        for (int i = 0; i < rows.size(); i++) {
            for (char fold : "RLTB".toCharArray()) {
                if (rows.get(i).length() < 6) {
                    rows.add(rows.get(i) + fold);
                }
            }
        }
        for (int columns = 1; columns <= 8; columns++) {
            for (int high = 1; high <= 8 && high * columns <= 16; high++) {
                for (String folds : rows) {
                    oneFolding(columns, high, folds);
                }
            }
        }
    }

    private static void oneFolding(int columns, int rows, String folds) {
        String text = columns + "x" + rows + folds;
        PlainModel.Plan plan = new PlainModel.Plan();
        plan.columns = columns;
        plan.rows = rows;
        plan.folds = folds;
        plan.booklet = PlainModel.booklet(columns, rows, folds);
        ImposeSheets x = new ImposeSheets();
        int foldPlace = text.length() - folds.length();
        CHECKS.due("scheme " + text, plan.booklet == null ? -1 - foldPlace : plan.cells(), Checks.scheme(x, text));
        if (plan.booklet == null) {
            return;
        }
        x.setting(0, folds.isEmpty() ? 2 : 0);
        for (int way = 0; way < 2; way++) {
            x.setting(1, way);
            String want = PlainModel.written(PlainModel.found(plan, way));
            CHECKS.due("scheme " + text, plan.cells(), Checks.scheme(x, text));
            x.run(2 * plan.cells());
            CHECKS.due(text + " found, way " + way, want, Checks.bothSides(x, 0, plan.cells()));
            CHECKS.due("scheme " + text + "=" + want, plan.cells(), Checks.scheme(x, text + "=" + want));
            CHECKS.due(text + " told, way " + way, 0, x.broken());
            CHECKS.due(text + " told, way " + way, 1, x.run(2 * plan.cells()));
        }
    }

    private void go() {
        for (int call = 0; call < CALLS && CHECKS.wrongCount() == 0; call++) {
            switch (random.nextInt(12)) {
                case 0 -> call += typeAScheme();
                case 1 -> compare("broken()", () -> sheets.broken(), () -> model.broken());
                case 2 -> chooseSetting();
                case 3 -> chooseRun();
                case 4 -> chooseCreep();
                case 5 -> chooseFold();
                case 6 -> chooseLaid();
                case 7 -> chooseJobs();
                case 8 -> chooseShared();
                default -> chooseAt();
            }
        }
    }

    private void compare(String text, Checks.Call got, Checks.Call want) {
        done.add(text);
        int before = CHECKS.wrongCount();
        CHECKS.due(text, Checks.outcome(want), Checks.outcome(got));
        if (CHECKS.wrongCount() > before) {
            System.out.println("the run: " + done);
        }
    }

    private int typeAScheme() {
        String text = random.nextInt(12) == 0 ? "" : aScheme();
        int calls = 1;
        for (int from = 0; from < text.length();) {
            int size = Math.min(text.length() - from, 1 + random.nextInt(8));
            long v = Checks.packed(text.substring(from, from + size));
            compare("type(" + v + ", " + size + ")", () -> sheets.type(v, size) ? 1 : 0, () -> model.type(v, size) ? 1 : 0);
            from += size;
            calls++;
        }
        if (random.nextInt(8) == 0) {
            int n = wild(-1, 9);
            compare("type(-1, " + n + ")", () -> sheets.type(-1, n) ? 1 : 0, () -> model.type(-1, n) ? 1 : 0);
        }
        if (random.nextInt(30) != 0) {
            compare("scheme() of " + text, () -> sheets.scheme(), () -> model.scheme());
        }
        return calls;
    }

    private String aScheme() {
        int columns = 1 << random.nextInt(4);
        int rows = 1 << random.nextInt(columns == 1 ? 4 : columns == 8 ? 2 : columns == 4 ? 3 : 4);
        if (random.nextInt(4) == 0) {
            columns = 1 + random.nextInt(5);
            rows = 1 + random.nextInt(3);
        }
        String folds = random.nextInt(4) == 0 ? "" : rightFolds(columns, rows);
        String text = columns + "x" + rows + folds;
        if (random.nextInt(3) == 0) {
            PlainModel.Plan plan = new PlainModel.Plan();
            plan.columns = columns;
            plan.rows = rows;
            plan.booklet = PlainModel.booklet(columns, rows, folds);
            if (plan.booklet != null) {
                text += "=" + PlainModel.written(PlainModel.found(plan, random.nextInt(2)));
            }
        }
        int faults = random.nextInt(3) == 0 ? 1 + random.nextInt(2) : 0;
        for (int i = 0; i < faults; i++) {
            text = withFault(text);
        }
        return text;
    }

    private String rightFolds(int columns, int rows) {
        StringBuilder folds = new StringBuilder();
        int x = columns;
        int y = rows;
        while (x % 2 == 0 || y % 2 == 0) {
            if (y % 2 == 1 || (x % 2 == 0 && random.nextBoolean())) {
                folds.append(random.nextBoolean() ? 'R' : 'L');
                x /= 2;
            } else {
                folds.append(random.nextBoolean() ? 'T' : 'B');
                y /= 2;
            }
        }
        return folds.toString();
    }

    private String withFault(String text) {
        String bytes = "0123456789xRLTB=,/!! X\u0000\u00ff";
        char other = bytes.charAt(random.nextInt(bytes.length()));
        int place = random.nextInt(text.length() + 1);
        if (place == text.length() || random.nextInt(3) == 0) {
            return text.substring(0, place) + other + text.substring(place);
        }
        String begin = text.substring(0, place);
        switch (random.nextInt(4)) {
            case 0:
                return begin.isEmpty() ? text : begin;
            case 1:
                return text.length() > 1 ? begin + text.substring(place + 1) : text;
            default:
                return begin + other + text.substring(place + 1);
        }
    }

    private int wild(int least, int most) {
        return random.nextInt(25) == 0
                ? EDGES[random.nextInt(EDGES.length)]
                : least + random.nextInt(most - least + 1);
    }

    private void chooseSetting() {
        int what = wild(-1, 10);
        int[] most = {2, 1, 1, 900, 900, 900, 900, 10000, 10000, 1};
        int v = wild(0, what >= 0 && what < 10 ? most[what] : 3);
        compare("setting(" + what + ", " + v + ")", () -> sheets.setting(what, v), () -> model.setting(what, v));
    }

    private void chooseRun() {
        // Most schemes fold, so that stacking is chosen and left again just before some runs.
        if (random.nextInt(2) == 0) {
            int binding = random.nextInt(3);
            compare("setting(0, " + binding + ")", () -> sheets.setting(0, binding), () -> model.setting(0, binding));
        }
        int n = wild(0, random.nextBoolean() ? 40 : 650);
        compare("run(" + n + ")", () -> sheets.run(n), () -> model.run(n));
    }

    private void chooseCreep() {
        int page = wild(-1, 4 + model.laid(0) * model.laid(1));
        compare("creep(" + page + ")", () -> sheets.creep(page), () -> model.creep(page));
    }

    private void chooseFold() {
        int i = wild(-1, 2 + model.laid(0) * model.laid(1));
        compare("fold(" + i + ")", () -> sheets.fold(i), () -> model.fold(i));
    }

    private void chooseLaid() {
        int what = wild(-1, 4);
        compare("laid(" + what + ")", () -> sheets.laid(what), () -> model.laid(what));
    }

    private void chooseAt() {
        int sheet = wild(0, Math.max(0, model.laid(0) - 1));
        int side = wild(0, 1);
        int i = wild(0, Math.max(0, model.laid(1) / 2 - 1));
        int what = wild(0, 4);
        String text = "at(" + sheet + ", " + side + ", " + i + ", " + what + ")";
        compare(text, () -> sheets.at(sheet, side, i, what), () -> model.at(sheet, side, i, what));
    }

    private void chooseJobs() {
        int choice = random.nextInt(60);
        if (choice == 0) {
            compare("clear()", () -> {
                sheets.clear();
                return 0;
            }, () -> {
                model.clear();
                return 0;
            });
        } else if (choice < 25) {
            int copies = wild(0, random.nextBoolean() ? 30 : 100000);
            compare("job(" + copies + ")", () -> sheets.job(copies), () -> model.job(copies));
        } else if (choice < 35) {
            int slots = wild(0, 17);
            int cost = wild(0, random.nextBoolean() ? 20 : 100000);
            int ways = wild(1, random.nextBoolean() ? 60 : 1000);
            String text = "share(" + slots + ", " + cost + ", " + ways + ")";
            compare(text, () -> sheets.share(slots, cost, ways), () -> model.share(slots, cost, ways));
        }
    }

    private void chooseShared() {
        int job = wild(-4, 8);
        int what = job < 0 ? 0 : wild(0, 2);
        compare("shared(" + job + ", " + what + ")", () -> sheets.shared(job, what), () -> model.shared(job, what));
    }
}
