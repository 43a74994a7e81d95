import java.util.ArrayList;
import java.util.Collections;
import java.util.List;

/**
 * The document once more, slow and by other means: sheets are grids of piles, books are bound by putting lists
 * together, the least sheets are found by counting up, and ways are written down one by one.
 */
final class PlainModel {
    static final class Leaf {
        final int cell;
        boolean frontUp = true;
        boolean headUp = true;

        Leaf(int cell) {
            this.cell = cell;
        }
    }

    /** One place of a side, as it is seen. */
    static final class Spot {
        int page;
        boolean turned;
    }

    static final class Plan {
        int columns;
        int rows;
        String folds = "";
        List<Leaf> booklet;
        Spot[][] told;

        int cells() {
            return columns * rows;
        }
    }

    /** A page of a sheet: what the book is made of. */
    record SheetPage(int sheet, int page) {
    }

    private static final int[] LEAST = {0, 0, 0, 1, 1, 1, 1, 0, 0, 0};
    private static final int[] MOST = {2, 1, 1, 100000, 100000, 100000, 100000, 10000, 10000, 1};

    private String tape = "";
    private Plan plan;
    private int[] settings = {0, 0, 0, 1000, 1000, 1000, 1000, 0, 0, 0};

    private Plan laidPlan;
    private int[] laidSettings;
    private List<SheetPage> laidBook = List.of();
    private int laidPages;
    private int laidSheets;

    private final List<Integer> jobs = new ArrayList<>();
    private List<Integer> sharedJobs;
    private List<Integer> sharedWay;
    private int sharedSlots;
    private int sharedLooked;
    private boolean sharedAll;

    // ---- the tape and the scheme

    boolean type(long v, int n) {
        if (n < 1 || n > 8 || tape.length() + n > 200) {
            return false;
        }
        StringBuilder more = new StringBuilder(tape);
        for (int i = 0; i < n; i++) {
            more.append((char) (v >> 8 * i & 0xff));
        }
        tape = more.toString();
        return true;
    }

    int scheme() {
        String text = tape;
        tape = "";
        Plan read = new Plan();
        int wrong = wrongPlace(text, read);
        if (wrong >= 0) {
            return -1 - wrong;
        }
        plan = read;
        return read.cells();
    }

    private static int wrongPlace(String text, Plan read) {
        int x = digitsEnd(text, 0);
        if (x == 0 || x > 3) {
            return Math.min(x, 3);
        }
        read.columns = Integer.parseInt(text.substring(0, x));
        if (read.columns < 1 || read.columns > 8) {
            return 0;
        }
        if (!text.startsWith("x", x)) {
            return x;
        }
        int rowsEnd = digitsEnd(text, x + 1);
        if (rowsEnd == x + 1 || rowsEnd > x + 4) {
            return Math.min(rowsEnd, x + 4);
        }
        read.rows = Integer.parseInt(text.substring(x + 1, rowsEnd));
        if (read.rows < 1 || read.rows > 8 || read.cells() > 16) {
            return x + 1;
        }
        int end = rowsEnd;
        while (end < text.length() && "RLTB".indexOf(text.charAt(end)) >= 0) {
            end++;
        }
        if (end > rowsEnd + 6) {
            return rowsEnd + 6;
        }
        read.folds = text.substring(rowsEnd, end);
        read.booklet = booklet(read.columns, read.rows, read.folds);
        if (read.booklet == null) {
            return rowsEnd;
        }
        if (end == text.length()) {
            return -1;
        }
        return text.charAt(end) == '=' ? wrongPagePlace(text, end + 1, read) : end;
    }

    private static int wrongPagePlace(String text, int from, Plan read) {
        int cells = read.cells();
        Spot[][] told = new Spot[2][cells];
        int at = from;
        for (int j = 0; j < 2 * cells; j++) {
            if (j > 0) {
                if (!text.startsWith(j == cells ? "/" : ",", at)) {
                    return at;
                }
                at++;
            }
            int end = digitsEnd(text, at);
            if (end == at || end > at + 3) {
                return Math.min(end, at + 3);
            }
            Spot spot = new Spot();
            spot.page = Integer.parseInt(text.substring(at, end));
            if (spot.page < 1 || spot.page > 2 * cells) {
                return at;
            }
            spot.turned = text.startsWith("!", end);
            at = spot.turned ? end + 1 : end;
            told[j / cells][j % cells] = spot;
        }
        read.told = told;
        return at == text.length() ? -1 : at;
    }

    private static int digitsEnd(String text, int from) {
        int end = from;
        while (end < text.length() && text.charAt(end) >= '0' && text.charAt(end) <= '9') {
            end++;
        }
        return end;
    }

    // ---- folding

    /** The leaves from the top; null if the folds are not right. */
    static List<Leaf> booklet(int columns, int rows, String folds) {
        List<List<List<Leaf>>> grid = new ArrayList<>();
        List<Leaf> cut = new ArrayList<>();
        for (int y = 0; y < rows; y++) {
            List<List<Leaf>> row = new ArrayList<>();
            for (int x = 0; x < columns; x++) {
                Leaf leaf = new Leaf(x + columns * y);
                cut.add(leaf);
                row.add(new ArrayList<>(List.of(leaf)));
            }
            grid.add(row);
        }
        if (folds.isEmpty()) {
            return cut;
        }
        for (char fold : folds.toCharArray()) {
            boolean sideways = fold == 'R' || fold == 'L';
            if ((sideways ? grid.get(0).size() : grid.size()) % 2 == 1) {
                return null;
            }
            grid = sideways ? foldedSideways(grid, fold) : foldedUpright(grid, fold);
        }
        if (grid.size() != 1 || grid.get(0).size() != 1) {
            return null;
        }
        List<Leaf> pile = new ArrayList<>(grid.get(0).get(0));
        Collections.reverse(pile);
        return pile;
    }

    private static List<List<List<Leaf>>> foldedSideways(List<List<List<Leaf>>> grid, char fold) {
        List<List<List<Leaf>>> after = new ArrayList<>();
        for (List<List<Leaf>> row : grid) {
            int columns = row.size();
            List<List<Leaf>> rowAfter = new ArrayList<>();
            for (int x = 0; x < columns; x++) {
                boolean stays = fold == 'R' ? x < columns / 2 : x >= columns / 2;
                if (stays) {
                    rowAfter.add(putOver(row.get(x), row.get(columns - 1 - x), false));
                }
            }
            after.add(rowAfter);
        }
        return after;
    }

    private static List<List<List<Leaf>>> foldedUpright(List<List<List<Leaf>>> grid, char fold) {
        List<List<List<Leaf>>> after = new ArrayList<>();
        int rows = grid.size();
        for (int y = 0; y < rows; y++) {
            boolean stays = fold == 'B' ? y < rows / 2 : y >= rows / 2;
            if (stays) {
                List<List<Leaf>> rowAfter = new ArrayList<>();
                for (int x = 0; x < grid.get(y).size(); x++) {
                    rowAfter.add(putOver(grid.get(y).get(x), grid.get(rows - 1 - y).get(x), true));
                }
                after.add(rowAfter);
            }
        }
        return after;
    }

    private static List<Leaf> putOver(List<Leaf> low, List<Leaf> high, boolean headsTurn) {
        List<Leaf> pile = new ArrayList<>(low);
        List<Leaf> over = new ArrayList<>(high);
        Collections.reverse(over);
        for (Leaf leaf : over) {
            leaf.frontUp = !leaf.frontUp;
            leaf.headUp = leaf.headUp != headsTurn;
            pile.add(leaf);
        }
        return pile;
    }

    /** Both sides as they are seen, by the folding. */
    static Spot[][] found(Plan plan, int way) {
        int cells = plan.cells();
        Spot[][] spots = new Spot[2][cells];
        for (int k = 0; k < cells; k++) {
            Leaf leaf = plan.booklet.get(k);
            int x = leaf.cell % plan.columns;
            int y = leaf.cell / plan.columns;
            Spot front = new Spot();
            front.page = leaf.frontUp ? 2 * k + 1 : 2 * k + 2;
            front.turned = !leaf.headUp;
            spots[0][leaf.cell] = front;
            Spot back = new Spot();
            back.page = leaf.frontUp ? 2 * k + 2 : 2 * k + 1;
            back.turned = way == 0 ? !leaf.headUp : leaf.headUp;
            int seenX = way == 0 ? plan.columns - 1 - x : x;
            int seenY = way == 0 ? y : plan.rows - 1 - y;
            spots[1][seenX + plan.columns * seenY] = back;
        }
        return spots;
    }

    static String written(Spot[][] spots) {
        StringBuilder text = new StringBuilder();
        for (int side = 0; side < 2; side++) {
            text.append(side == 0 ? "" : "/");
            for (int i = 0; i < spots[side].length; i++) {
                text.append(i == 0 ? "" : ",").append(spots[side][i].page).append(spots[side][i].turned ? "!" : "");
            }
        }
        return text.toString();
    }

    int broken() {
        if (plan == null || plan.told == null) {
            return 0;
        }
        Spot[][] found = found(plan, settings[1]);
        int first = 0;
        for (int side = 0; side < 2; side++) {
            for (int i = 0; i < plan.cells(); i++) {
                Spot want = found[side][i];
                Spot got = plan.told[side][i];
                boolean same = want.page == got.page && want.turned == got.turned;
                if (!same && (first == 0 || want.page < first)) {
                    first = want.page;
                }
            }
        }
        return first;
    }

    // ---- laying

    int setting(int what, int v) {
        if (what < 0 || what > 9) {
            throw new IndexOutOfBoundsException();
        }
        if (v < LEAST[what] || v > MOST[what]) {
            throw new IllegalArgumentException();
        }
        int before = settings[what];
        settings[what] = v;
        return before;
    }

    int run(int n) {
        if (n < 1 || (plan != null && n > 40 * plan.cells())) {
            throw new IllegalArgumentException();
        }
        if (plan == null || plan.folds.isEmpty() != (settings[0] == 2)) {
            throw new IllegalStateException();
        }
        if (broken() != 0) {
            return 0;
        }
        laidPlan = plan;
        laidSettings = settings.clone();
        laidPages = n;
        laidSheets = 0;
        while (laidSheets * 2 * plan.cells() < n) {
            laidSheets++;
        }
        laidBook = bound(laidSheets, plan.cells(), settings[0]);
        return laidSheets;
    }

    private static List<SheetPage> bound(int sheets, int leaves, int binding) {
        List<SheetPage> book = new ArrayList<>();
        if (binding == 2) {
            for (int k = 0; k < leaves; k++) {
                for (int s = 0; s < sheets; s++) {
                    book.add(new SheetPage(s, 2 * k + 1));
                    book.add(new SheetPage(s, 2 * k + 2));
                }
            }
            return book;
        }
        for (int s = 0; s < sheets; s++) {
            List<SheetPage> booklet = new ArrayList<>();
            for (int p = 1; p <= 2 * leaves; p++) {
                booklet.add(new SheetPage(s, p));
            }
            book.addAll(binding == 1 ? book.size() / 2 : book.size(), booklet);
        }
        return book;
    }

    private int numberAt(int index) {
        int number = laidSettings[2] == 1 ? index + 1 - (laidBook.size() - laidPages) : index + 1;
        return number >= 1 && number <= laidPages ? number : 0;
    }

    private int creepAt(int index) {
        int leaves = laidPlan.cells();
        int depth = 0;
        if (laidSettings[0] == 0) {
            int k = (laidBook.get(index).page() - 1) / 2;
            depth = Math.min(k, leaves - 1 - k);
        } else if (laidSettings[0] == 1) {
            depth = Math.min(index / 2, (laidBook.size() - 1 - index) / 2);
        }
        return Math.min(depth * laidSettings[7] / 1000, laidSettings[8]);
    }

    int at(int sheet, int side, int i, int what) {
        if (sheet < 0 || sheet >= laidSheets || side < 0 || side > 1 || i < 0 || i >= laidPlan.cells() || what < 0 || what > 4) {
            throw new IndexOutOfBoundsException();
        }
        Spot spot = found(laidPlan, laidSettings[1])[side][i];
        int index = laidBook.indexOf(new SheetPage(sheet, spot.page));
        int number = numberAt(index);
        if (number == 0) {
            return 0;
        }
        int cellWide = laidSettings[3];
        int cellHigh = laidSettings[4];
        int wide = laidSettings[5];
        int high = laidSettings[6];
        int scale = 1000;
        if (laidSettings[9] == 1 && (wide > cellWide || high > cellHigh)) {
            scale = Math.max(1, Math.min(1000 * cellWide / wide, 1000 * cellHigh / high));
        }
        boolean odd = index % 2 == 0;
        boolean less = odd && !spot.turned || !odd && spot.turned;
        int creep = less ? -creepAt(index) : creepAt(index);
        int x = i % laidPlan.columns;
        int y = i / laidPlan.columns;
        int[] answers = {
            number,
            spot.turned ? 1 : 0,
            cellWide * x + (cellWide - wide * scale / 1000 >> 1) + creep,
            cellHigh * y + (cellHigh - high * scale / 1000 >> 1),
            scale,
        };
        return answers[what];
    }

    int fold(int i) {
        if (i < 0 || i >= laidBook.size()) {
            throw new IndexOutOfBoundsException();
        }
        return numberAt(i);
    }

    int creep(int page) {
        for (int index = 0; index < laidBook.size(); index++) {
            if (page > 0 && numberAt(index) == page) {
                return creepAt(index);
            }
        }
        throw new IndexOutOfBoundsException();
    }

    int laid(int what) {
        if (what < 0 || what > 3) {
            throw new IndexOutOfBoundsException();
        }
        if (laidPlan == null) {
            return 0;
        }
        boolean over = laidSettings[9] == 0 && (laidSettings[5] > laidSettings[3] || laidSettings[6] > laidSettings[4]);
        int[] answers = {laidSheets, 2 * laidPlan.cells(), laidBook.size() - laidPages, over ? 1 : 0};
        return answers[what];
    }

    // ---- jobs

    int job(int copies) {
        if (copies < 1 || copies > 100000) {
            throw new IllegalArgumentException();
        }
        if (jobs.size() == 8) {
            throw new UnsupportedOperationException();
        }
        jobs.add(copies);
        return jobs.size() - 1;
    }

    void clear() {
        jobs.clear();
        sharedJobs = null;
    }

    int share(int slots, int cost, int ways) {
        if (slots < 1 || slots > 16 || cost < 0 || cost > 100000 || ways < 1 || ways > 1000) {
            throw new IllegalArgumentException();
        }
        if (jobs.isEmpty()) {
            throw new IllegalStateException();
        }
        List<List<Integer>> all = new ArrayList<>();
        writeWays(new ArrayList<>(), jobs.size(), all);
        sharedJobs = new ArrayList<>(jobs);
        sharedWay = null;
        sharedSlots = slots;
        sharedLooked = Math.min(ways, all.size());
        sharedAll = ways >= all.size();
        int least = -1;
        for (List<Integer> way : all.subList(0, sharedLooked)) {
            int sum = costOf(way, slots, cost);
            if (sum >= 0 && (least < 0 || sum < least)) {
                least = sum;
                sharedWay = way;
            }
        }
        return least;
    }

    private static void writeWays(List<Integer> begun, int size, List<List<Integer>> all) {
        if (begun.size() == size) {
            all.add(new ArrayList<>(begun));
            return;
        }
        int next = begun.isEmpty() ? 0 : Collections.max(begun) + 1;
        for (int plate = 0; plate <= next; plate++) {
            begun.add(plate);
            writeWays(begun, size, all);
            begun.remove(begun.size() - 1);
        }
    }

    private int costOf(List<Integer> way, int slots, int cost) {
        int sum = 0;
        for (int plate = 0; plate <= Collections.max(way); plate++) {
            int sheets = sheetsOf(way, plate, slots);
            if (sheets < 0) {
                return -1;
            }
            sum += sheets + cost;
        }
        return sum;
    }

    private int sheetsOf(List<Integer> way, int plate, int slots) {
        List<Integer> copies = new ArrayList<>();
        int all = 0;
        for (int i = 0; i < way.size(); i++) {
            if (way.get(i) == plate) {
                copies.add(sharedJobs.get(i));
                all += sharedJobs.get(i);
            }
        }
        if (copies.size() > slots) {
            return -1;
        }
        int sheets = Math.max(1, all / slots);
        while (slotsOf(copies, sheets) > slots) {
            sheets++;
        }
        return sheets;
    }

    private static int slotsOf(List<Integer> copies, int sheets) {
        int sum = 0;
        for (int wanted : copies) {
            sum += wanted / sheets + (wanted % sheets == 0 ? 0 : 1);
        }
        return sum;
    }

    int shared(int job, int what) {
        if (sharedJobs == null) {
            throw new IndexOutOfBoundsException();
        }
        if (job == -1) {
            return sharedAll ? 1 : 0;
        }
        if (job == -2) {
            return sharedLooked;
        }
        if (sharedWay == null || job < -3 || job >= sharedJobs.size()) {
            throw new IndexOutOfBoundsException();
        }
        if (job == -3) {
            return Collections.max(sharedWay) + 1;
        }
        int sheets = sheetsOf(sharedWay, sharedWay.get(job), sharedSlots);
        switch (what) {
            case 0:
                return sharedWay.get(job);
            case 1:
                return slotsOf(List.of(sharedJobs.get(job)), sheets);
            case 2:
                return sheets;
            default:
                throw new IndexOutOfBoundsException();
        }
    }
}
