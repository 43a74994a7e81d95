import java.util.Arrays;

/**
 * Pages laid onto sheets that are printed on both sides, folded and bound, and jobs that share plates.
 * Every row is made with the object and used again, so that no call makes anything.
 */
public final class ImposeSheets {
    private static final int MOST_CELLS = 16;
    private static final int MOST_ACROSS = 8;
    private static final int MOST_FOLDS = 6;
    private static final int MOST_DIGITS = 3;
    private static final int MOST_SHEETS = 20;
    private static final int MOST_JOBS = 8;
    private static final int MOST_COPIES = 100000;
    private static final int MOST_SLOTS = 16;
    private static final int MOST_COST = 100000;
    private static final int MOST_WAYS = 1000;
    private static final int FULL_SCALE = 1000;

    private static final int BINDING = 0;
    private static final int WAY = 1;
    private static final int BLANKS_FIRST = 2;
    private static final int CELL_WIDTH = 3;
    private static final int CELL_HEIGHT = 4;
    private static final int PAGE_WIDTH = 5;
    private static final int PAGE_HEIGHT = 6;
    private static final int PAPER = 7;
    private static final int LIMIT = 8;
    private static final int SCALING = 9;
    private static final int SETTINGS = 10;

    private static final int[] SETTING_FIRST = {0, 0, 0, 1000, 1000, 1000, 1000, 0, 0, 0};
    private static final int[] SETTING_LEAST = {0, 0, 0, 1, 1, 1, 1, 0, 0, 0};
    private static final int[] SETTING_MOST = {2, 1, 1, 100000, 100000, 100000, 100000, 10000, 10000, 1};

    private static final int NESTED = 1;
    private static final int STACKED = 2;

    private final Tape tape;
    private final SchemeReader reader;
    private final int[] settings;
    private final Book book;
    private final Sharing sharing;
    private Scheme latest;
    /** A tape is read into this one, so that a tape that fails leaves the latest scheme alone. */
    private Scheme spare;

    public ImposeSheets() {
        tape = new Tape();
        reader = new SchemeReader(tape);
        settings = new int[SETTINGS];
        System.arraycopy(SETTING_FIRST, 0, settings, 0, SETTINGS);
        book = new Book();
        sharing = new Sharing();
        latest = new Scheme();
        spare = new Scheme();
    }

    public boolean type(long v, int n) {
        return tape.append(v, n);
    }

    public int scheme() {
        int answer = reader.readInto(spare);
        tape.empty();
        if (answer > 0) {
            Scheme before = latest;
            latest = spare;
            spare = before;
        }
        return answer;
    }

    public int setting(int what, int v) throws IndexOutOfBoundsException, IllegalArgumentException {
        if (what < 0 || what >= SETTINGS) {
            throw new IndexOutOfBoundsException("no such setting");
        }
        if (v < SETTING_LEAST[what] || v > SETTING_MOST[what]) {
            throw new IllegalArgumentException("not within the setting's bounds");
        }
        int before = settings[what];
        settings[what] = v;
        return before;
    }

    public int run(int n) throws IllegalArgumentException, IllegalStateException {
        boolean hasScheme = latest.cells() > 0;
        if (n < 1 || (hasScheme && n > MOST_SHEETS * latest.pageCount())) {
            throw new IllegalArgumentException("not a number of pages that can be laid");
        }
        if (!hasScheme) {
            throw new IllegalStateException("no scheme");
        }
        if (latest.isCut() != (settings[BINDING] == STACKED)) {
            throw new IllegalStateException("the binding is not one for the scheme");
        }
        if (latest.firstBroken(settings[WAY]) != 0) {
            return 0;
        }
        book.lay(latest, settings, n);
        return book.sheetCount();
    }

    public int broken() {
        return latest.firstBroken(settings[WAY]);
    }

    public int at(int sheet, int side, int i, int what) throws IndexOutOfBoundsException {
        if (!book.hasSpot(sheet, side, i) || what < 0 || what > 4) {
            throw new IndexOutOfBoundsException("no such place, or nothing of that kind to tell");
        }
        return book.tellSpot(sheet, side, i, what);
    }

    public int fold(int i) throws IndexOutOfBoundsException {
        if (i < 0 || i >= book.placeCount()) {
            throw new IndexOutOfBoundsException("no such place in the book");
        }
        return book.pageAtPlace(i + 1);
    }

    public int creep(int page) throws IndexOutOfBoundsException {
        if (!book.hasPage(page)) {
            throw new IndexOutOfBoundsException("the page was not laid");
        }
        return book.creepOfPage(page);
    }

    public int laid(int what) throws IndexOutOfBoundsException {
        switch (what) {
            case 0:
                return book.sheetCount();
            case 1:
                return book.bookletPages();
            case 2:
                return book.blankCount();
            case 3:
                return book.isTooSmallForPages() ? 1 : 0;
            default:
                throw new IndexOutOfBoundsException("nothing of that kind to tell");
        }
    }

    public int job(int copies) throws IllegalArgumentException, UnsupportedOperationException {
        if (copies < 1 || copies > MOST_COPIES) {
            throw new IllegalArgumentException("not a number of copies");
        }
        if (sharing.jobCount() >= MOST_JOBS) {
            throw new UnsupportedOperationException("there are as many jobs as there may be");
        }
        return sharing.addJob(copies);
    }

    public void clear() {
        sharing.forget();
    }

    public int share(int slots, int cost, int ways) throws IllegalArgumentException, IllegalStateException {
        if (slots < 1 || slots > MOST_SLOTS || cost < 0 || cost > MOST_COST || ways < 1 || ways > MOST_WAYS) {
            throw new IllegalArgumentException("slots, cost or ways not within bounds");
        }
        if (sharing.jobCount() == 0) {
            throw new IllegalStateException("no jobs");
        }
        return sharing.seekLeastCost(slots, cost, ways);
    }

    public int shared(int job, int what) throws IndexOutOfBoundsException {
        if (!sharing.canTell(job, what)) {
            throw new IndexOutOfBoundsException("nothing such was shared out");
        }
        return sharing.tell(job, what);
    }

    /** The quotient upward; 0 for a divisor that no caller hands in. */
    private static int upward(int count, int by) {
        return by > 0 ? (count + by - 1) / by : 0;
    }

    /** The quotient downward; 0 for a divisor that no caller hands in. */
    private static int downward(int count, int by) {
        return by > 0 ? Math.floorDiv(count, by) : 0;
    }

    /** The bytes that wait to be taken as a scheme. */
    private static final class Tape {
        private static final int MOST_BYTES = 200;
        private static final int END = -1;

        private final int[] bytes = new int[MOST_BYTES];
        private int size = 0;

        boolean append(long v, int n) {
            if (n < 1 || n > 8 || size + n > MOST_BYTES) {
                return false;
            }
            for (int i = 0; i < n; i++) {
                bytes[size + i] = (int) (v >>> (8 * i)) & 255;
            }
            size += n;
            return true;
        }

        void empty() {
            size = 0;
        }

        int byteAt(int place) {
            return place >= 0 && place < size ? bytes[place] : END;
        }
    }

    /**
     * A sheet, its folds, the pages told for it, and the booklet that folding makes of it.
     * A leaf is held as 4 * cell, with two marks for how it lies when all is folded.
     */
    private static final class Scheme {
        static final int BACK_UP = 1;
        static final int HEAD_DOWN = 2;

        private final int[] folds = new int[MOST_FOLDS];
        private final int[] toldPages = new int[2 * MOST_CELLS];
        private final int[] toldTurned = new int[2 * MOST_CELLS];
        private final int[] leaves = new int[MOST_CELLS];
        private int columns = 0;
        private int rows = 0;
        private int foldCount = 0;
        private boolean told = false;

        void begin(int columnCount, int rowCount) {
            columns = columnCount;
            rows = rowCount;
            foldCount = 0;
            told = false;
        }

        void addFold(int letter) {
            if (foldCount < MOST_FOLDS) {
                folds[foldCount] = letter;
                foldCount++;
            }
        }

        void tellPage(int spot, int page, boolean turned) {
            if (spot >= 0 && spot < 2 * MOST_CELLS) {
                told = true;
                toldPages[spot] = page;
                toldTurned[spot] = turned ? 1 : 0;
            }
        }

        void setLeaf(int k, int leaf) {
            if (k >= 0 && k < MOST_CELLS) {
                leaves[k] = leaf;
            }
        }

        /** 0 as long as there is no scheme. */
        int cells() {
            return columns * rows;
        }

        int pageCount() {
            return 2 * cells();
        }

        boolean isCut() {
            return foldCount == 0;
        }

        private int leafOf(int page) {
            int k = (page - 1) / 2;
            return k >= 0 && k < MOST_CELLS ? leaves[k] : 0;
        }

        private int sideOf(int page) {
            int sideUp = leafOf(page) & BACK_UP;
            return page % 2 == 1 ? sideUp : 1 - sideUp;
        }

        /** Where the folding has a page, as it is seen: side * MOST_CELLS + place. */
        int spotOf(int page, int way) {
            int cell = leafOf(page) / 4;
            if (sideOf(page) == 0 || columns < 1) {
                return cell;
            }
            int x = cell % columns;
            int y = cell / columns;
            int seen = way == 0 ? columns - 1 - x + columns * y : x + columns * (rows - 1 - y);
            return MOST_CELLS + seen;
        }

        /** 1 if the folding has a page upside down, as it is seen. */
        int turnedOf(int page, int way) {
            int headDown = (leafOf(page) & HEAD_DOWN) / HEAD_DOWN;
            return headDown ^ (sideOf(page) & way);
        }

        int firstBroken(int way) {
            if (!told) {
                return 0;
            }
            int pages = pageCount();
            for (int page = 1; page <= pages; page++) {
                if (!isToldRight(page, way)) {
                    return page;
                }
            }
            return 0;
        }

        private boolean isToldRight(int page, int way) {
            int spot = spotOf(page, way);
            return spot >= 0 && spot < toldPages.length
                    && toldPages[spot] == page && toldTurned[spot] == turnedOf(page, way);
        }
    }

    /** Reads the tape as a scheme, and knows the first place that is wrong. */
    private static final class SchemeReader {
        private final Tape tape;
        private final Folding folding = new Folding();
        private int place = 0;
        private int wrongPlace = 0;
        private int number = 0;

        SchemeReader(Tape tape) {
            this.tape = tape;
        }

        /** How many cells the scheme has, or -1 minus the first wrong place. */
        int readInto(Scheme target) {
            place = 0;
            if (readSize(target) && readFolds(target) && readPages(target) && expect(Tape.END)) {
                return target.cells();
            }
            return -1 - wrongPlace;
        }

        private boolean readSize(Scheme target) {
            if (!readNumber(MOST_ACROSS)) {
                return false;
            }
            int columns = number;
            // Too many cells are told at the rows, just as too many rows are.
            int mostRows = Math.min(MOST_ACROSS, downward(MOST_CELLS, columns));
            if (!expect('x') || !readNumber(mostRows)) {
                return false;
            }
            target.begin(columns, number);
            return true;
        }

        private boolean readFolds(Scheme target) {
            int begin = place;
            for (int count = 0; count < MOST_FOLDS && isFold(next()); count++) {
                target.addFold(next());
                place++;
            }
            if (isFold(next())) {
                return failAt(place);
            }
            return folding.makeBooklet(target) || failAt(begin);
        }

        private boolean readPages(Scheme target) {
            if (next() != '=') {
                return true;
            }
            place++;
            return readSide(target, 0) && expect('/') && readSide(target, 1);
        }

        private boolean readSide(Scheme target, int side) {
            int cells = target.cells();
            for (int i = 0; i < cells; i++) {
                if ((i > 0 && !expect(',')) || !readNumber(target.pageCount())) {
                    return false;
                }
                boolean turned = next() == '!';
                if (turned) {
                    place++;
                }
                target.tellPage(side * MOST_CELLS + i, number, turned);
            }
            return true;
        }

        /** A number's bounds are looked at only when it has ended, so a digit too many comes first. */
        private boolean readNumber(int most) {
            int begin = place;
            number = 0;
            for (int i = 0; i < MOST_DIGITS && isDigit(next()); i++) {
                number = 10 * number + next() - '0';
                place++;
            }
            if (place == begin || isDigit(next())) {
                return failAt(place);
            }
            return (number >= 1 && number <= most) || failAt(begin);
        }

        private boolean expect(int wanted) {
            if (next() != wanted) {
                return failAt(place);
            }
            place++;
            return true;
        }

        private boolean failAt(int where) {
            wrongPlace = where;
            return false;
        }

        private int next() {
            return tape.byteAt(place);
        }

        private static boolean isDigit(int letter) {
            return letter >= '0' && letter <= '9';
        }

        private static boolean isFold(int letter) {
            return letter == 'R' || letter == 'L' || letter == 'T' || letter == 'B';
        }
    }

    /**
     * Folds a sheet. Places keep the numbers of their cells, and the part of the sheet that piles
     * still lie on gets smaller, so that no pile moves but the ones that are turned over.
     */
    private static final class Folding {
        /** The pile of a place: MOST_CELLS leaves from MOST_CELLS * place on, the lowest first. */
        private final int[] piles = new int[MOST_CELLS * MOST_CELLS];
        private int stride = 0;
        private int left = 0;
        private int top = 0;
        private int columns = 0;
        private int rows = 0;
        private int height = 0;

        /** The scheme's leaves are set; false if its folds are not right. */
        boolean makeBooklet(Scheme scheme) {
            if (scheme.isCut()) {
                cutLeaves(scheme);
                return true;
            }
            layOut(scheme);
            for (int i = 0; i < scheme.foldCount && i < MOST_FOLDS; i++) {
                if (!foldOnce(scheme.folds[i])) {
                    return false;
                }
            }
            if (columns != 1 || rows != 1) {
                return false;
            }
            takePile(scheme);
            return true;
        }

        private static void cutLeaves(Scheme scheme) {
            int cells = scheme.cells();
            for (int k = 0; k < cells; k++) {
                scheme.setLeaf(k, 4 * k);
            }
        }

        private void layOut(Scheme scheme) {
            stride = scheme.columns;
            left = 0;
            top = 0;
            columns = scheme.columns;
            rows = scheme.rows;
            height = 1;
            for (int cell = 0; cell < MOST_CELLS; cell++) {
                piles[MOST_CELLS * cell] = 4 * cell;
            }
        }

        private boolean foldOnce(int letter) {
            boolean across = letter == 'R' || letter == 'L';
            if ((across ? columns : rows) % 2 != 0) {
                return false;
            }
            if (across) {
                foldAcross(letter == 'R' ? left : left + columns / 2);
            } else {
                foldDown(letter == 'B' ? top : top + rows / 2);
            }
            height *= 2;
            return true;
        }

        private void foldAcross(int staying) {
            int half = columns / 2;
            int mirror = 2 * left + columns - 1;
            for (int y = top; y < top + rows; y++) {
                for (int x = staying; x < staying + half; x++) {
                    putOver(mirror - x + stride * y, x + stride * y, Scheme.BACK_UP);
                }
            }
            left = staying;
            columns = half;
        }

        private void foldDown(int staying) {
            int half = rows / 2;
            int mirror = 2 * top + rows - 1;
            for (int y = staying; y < staying + half; y++) {
                for (int x = left; x < left + columns; x++) {
                    putOver(x + stride * (mirror - y), x + stride * y, Scheme.BACK_UP | Scheme.HEAD_DOWN);
                }
            }
            top = staying;
            rows = half;
        }

        /** The marks are what turning over changes of each leaf. */
        private void putOver(int from, int onto, int marks) {
            if (from < 0 || from >= MOST_CELLS || onto < 0 || onto >= MOST_CELLS || 2 * height > MOST_CELLS) {
                return;
            }
            for (int i = 0; i < height; i++) {
                piles[MOST_CELLS * onto + height + i] = piles[MOST_CELLS * from + height - 1 - i] ^ marks;
            }
        }

        private void takePile(Scheme scheme) {
            int place = left + stride * top;
            if (place < 0 || place >= MOST_CELLS || height > MOST_CELLS) {
                return;
            }
            for (int k = 0; k < height; k++) {
                scheme.setLeaf(k, piles[MOST_CELLS * place + height - 1 - k]);
            }
        }
    }

    /**
     * What is laid, by the scheme and the settings of its run. A place of the book is told from 1, blank
     * ones among them; a page is what is printed there.
     */
    private static final class Book {
        private final int[] settings = new int[SETTINGS];
        private final int[] spotPages = new int[2 * MOST_CELLS];
        private final int[] spotTurned = new int[2 * MOST_CELLS];
        private int columns = 0;
        private int cells = 0;
        private int sheets = 0;
        private int pages = 0;
        private int scale = 0;

        void lay(Scheme scheme, int[] runSettings, int pageCount) {
            System.arraycopy(runSettings, 0, settings, 0, SETTINGS);
            columns = scheme.columns;
            cells = scheme.cells();
            pages = pageCount;
            sheets = upward(pages, bookletPages());
            scale = findScale();
            int way = settings[WAY];
            for (int page = 1; page <= bookletPages(); page++) {
                int spot = scheme.spotOf(page, way);
                if (spot >= 0 && spot < spotPages.length) {
                    spotPages[spot] = page;
                    spotTurned[spot] = scheme.turnedOf(page, way);
                }
            }
        }

        int sheetCount() {
            return sheets;
        }

        int bookletPages() {
            return 2 * cells;
        }

        int placeCount() {
            return sheets * bookletPages();
        }

        int blankCount() {
            return placeCount() - pages;
        }

        private boolean isPageGreater() {
            return settings[PAGE_WIDTH] > settings[CELL_WIDTH] || settings[PAGE_HEIGHT] > settings[CELL_HEIGHT];
        }

        boolean isTooSmallForPages() {
            return isPageGreater() && settings[SCALING] == 0;
        }

        private int findScale() {
            if (!isPageGreater() || settings[SCALING] == 0) {
                return FULL_SCALE;
            }
            int byWidth = downward(FULL_SCALE * settings[CELL_WIDTH], settings[PAGE_WIDTH]);
            int byHeight = downward(FULL_SCALE * settings[CELL_HEIGHT], settings[PAGE_HEIGHT]);
            return Math.max(1, Math.min(byWidth, byHeight));
        }

        boolean hasSpot(int sheet, int side, int i) {
            return sheet >= 0 && sheet < sheets && side >= 0 && side <= 1 && i >= 0 && i < cells;
        }

        boolean hasPage(int page) {
            return page >= 1 && page <= pages;
        }

        private int blanksBefore() {
            return settings[BLANKS_FIRST] == 1 ? blankCount() : 0;
        }

        /** The page at a place of the book, 0 if it is blank. */
        int pageAtPlace(int place) {
            int page = place - blanksBefore();
            return hasPage(page) ? page : 0;
        }

        int creepOfPage(int page) {
            return creepOfPlace(page + blanksBefore());
        }

        private int placeOf(int sheet, int page) {
            switch (settings[BINDING]) {
                case NESTED:
                    return page <= cells
                            ? cells * sheet + page
                            : placeCount() - cells * (sheet + 1) + page - cells;
                case STACKED:
                    return 2 * ((page - 1) / 2 * sheets + sheet) + 2 - page % 2;
                default:
                    return bookletPages() * sheet + page;
            }
        }

        private int depthOf(int place) {
            int leaf = (place - 1) / 2;
            switch (settings[BINDING]) {
                case NESTED:
                    return Math.min(leaf, sheets * cells - 1 - leaf);
                case STACKED:
                    return 0;
                default:
                    int k = cells > 0 ? leaf % cells : 0;
                    return Math.min(k, cells - 1 - k);
            }
        }

        private int creepOfPlace(int place) {
            return Math.min(depthOf(place) * settings[PAPER] / 1000, settings[LIMIT]);
        }

        int tellSpot(int sheet, int side, int i, int what) {
            int spot = side * MOST_CELLS + i;
            if (spot < 0 || spot >= spotPages.length) {
                return 0;
            }
            int place = placeOf(sheet, spotPages[spot]);
            int page = pageAtPlace(place);
            if (page == 0) {
                return 0;
            }
            switch (what) {
                case 0:
                    return page;
                case 1:
                    return spotTurned[spot];
                case 2:
                    return leftEdge(i, place, spotTurned[spot]);
                case 3:
                    return topEdge(i);
                default:
                    return scale;
            }
        }

        private int leftEdge(int i, int place, int turned) {
            int x = columns > 0 ? i % columns : 0;
            int creep = creepOfPlace(place);
            // Creep goes to the spine, which a page upside down has on its other side.
            boolean goesLeft = (place % 2 == 1) == (turned == 0);
            return settings[CELL_WIDTH] * x + margin(settings[CELL_WIDTH], settings[PAGE_WIDTH])
                    + (goesLeft ? -creep : creep);
        }

        private int topEdge(int i) {
            int y = downward(i, columns);
            return settings[CELL_HEIGHT] * y + margin(settings[CELL_HEIGHT], settings[PAGE_HEIGHT]);
        }

        private int margin(int cell, int page) {
            return downward(cell - page * scale / FULL_SCALE, 2);
        }
    }

    /**
     * The jobs, the search for the cheapest way to share them out, and the way that was taken.
     * The jobs of a plate are a set of bits, so that what a set needs is found once a search.
     */
    private static final class Sharing {
        private static final int UNKNOWN = 0;
        private static final int NEVER = -1;

        private final int[] copies = new int[MOST_JOBS];
        private final int[] needs = new int[1 << MOST_JOBS];
        private final int[] way = new int[MOST_JOBS];
        private final int[] plateJobs = new int[MOST_JOBS];
        private final int[] takenPlate = new int[MOST_JOBS];
        private final int[] takenSheets = new int[MOST_JOBS];
        private int jobs = 0;
        private int slots = 0;
        /** 0 when nothing was shared out. */
        private int waysLookedAt = 0;
        private boolean allLookedAt = false;
        private int sharedJobs = 0;
        /** 0 when no way was taken. */
        private int takenPlates = 0;

        int jobCount() {
            return jobs;
        }

        int addJob(int wanted) {
            if (jobs >= MOST_JOBS) {
                return -1;
            }
            copies[jobs] = wanted;
            jobs++;
            return jobs - 1;
        }

        void forget() {
            jobs = 0;
            waysLookedAt = 0;
        }

        int seekLeastCost(int slotCount, int plateCost, int most) {
            slots = slotCount;
            sharedJobs = jobs;
            takenPlates = 0;
            waysLookedAt = 0;
            allLookedAt = false;
            Arrays.fill(needs, UNKNOWN);
            Arrays.fill(way, 0);
            int least = NEVER;
            while (waysLookedAt < most && !allLookedAt) {
                waysLookedAt++;
                int cost = costOfWay(plateCost);
                if (cost != NEVER && (least == NEVER || cost < least)) {
                    least = cost;
                    takeWay();
                }
                allLookedAt = !goToNextWay();
            }
            return least;
        }

        private int plateCount() {
            return greatestBefore(jobs) + 1;
        }

        private int costOfWay(int plateCost) {
            fillPlates();
            int plates = plateCount();
            int cost = 0;
            for (int p = 0; p < plates && p < MOST_JOBS; p++) {
                int sheets = sheetsFor(plateJobs[p]);
                if (sheets == NEVER) {
                    return NEVER;
                }
                cost += sheets + plateCost;
            }
            return cost;
        }

        private void fillPlates() {
            Arrays.fill(plateJobs, 0);
            for (int i = 0; i < jobs && i < MOST_JOBS; i++) {
                int plate = way[i];
                if (plate >= 0 && plate < MOST_JOBS) {
                    plateJobs[plate] |= 1 << i;
                }
            }
        }

        private int sheetsFor(int set) {
            if (set < 0 || set >= needs.length) {
                return NEVER;
            }
            if (needs[set] == UNKNOWN) {
                needs[set] = Integer.bitCount(set) > slots ? NEVER : leastSheets(set);
            }
            return needs[set];
        }

        /** More sheets never want more slots, so the least number is found by halving. */
        private int leastSheets(int set) {
            int low = 1;
            int high = MOST_COPIES;
            for (int step = 0; step < 32 && low < high; step++) {
                int middle = (low + high) / 2;
                if (slotsFor(set, middle) <= slots) {
                    high = middle;
                } else {
                    low = middle + 1;
                }
            }
            return low;
        }

        private int slotsFor(int set, int sheets) {
            int sum = 0;
            for (int i = 0; i < jobs && i < MOST_JOBS; i++) {
                if ((set >> i & 1) == 1) {
                    sum += upward(copies[i], sheets);
                }
            }
            return sum;
        }

        private void takeWay() {
            takenPlates = plateCount();
            for (int i = 0; i < jobs && i < MOST_JOBS; i++) {
                int plate = way[i];
                takenPlate[i] = plate;
                takenSheets[i] = plate >= 0 && plate < MOST_JOBS ? sheetsFor(plateJobs[plate]) : 0;
            }
        }

        /** The last job that may have a greater number gets the next one, and all behind it 0. */
        private boolean goToNextWay() {
            for (int i = Math.min(jobs, MOST_JOBS) - 1; i > 0; i--) {
                if (way[i] <= greatestBefore(i)) {
                    way[i]++;
                    return true;
                }
                way[i] = 0;
            }
            return false;
        }

        private int greatestBefore(int job) {
            int greatest = 0;
            for (int i = 0; i < job && i < MOST_JOBS; i++) {
                greatest = Math.max(greatest, way[i]);
            }
            return greatest;
        }

        boolean canTell(int job, int what) {
            if (waysLookedAt == 0 || job < -3) {
                return false;
            }
            if (job == -1 || job == -2) {
                return true;
            }
            if (takenPlates == 0) {
                return false;
            }
            return job == -3 || (job < sharedJobs && what >= 0 && what <= 2);
        }

        int tell(int job, int what) {
            if (job == -1) {
                return allLookedAt ? 1 : 0;
            }
            if (job == -2) {
                return waysLookedAt;
            }
            if (job < 0 || job >= MOST_JOBS) {
                return takenPlates;
            }
            switch (what) {
                case 0:
                    return takenPlate[job];
                case 1:
                    return upward(copies[job], takenSheets[job]);
                default:
                    return takenSheets[job];
            }
        }
    }
}
