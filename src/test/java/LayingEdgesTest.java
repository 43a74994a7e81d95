/** The edges that the document names of folding, binding and laying: its terms, and promises 5 to 10. */
public final class LayingEdgesTest {
    private static final Checks CHECKS = new Checks();
    private static final int BINDING = 0;
    private static final int WAY = 1;
    private static final int BLANKS_FIRST = 2;
    private static final int CELL_WIDTH = 3;
    private static final int CELL_HEIGHT = 4;
    private static final int PAGE_WIDTH = 5;
    private static final int PAGE_HEIGHT = 6;
    private static final int PAPER = 7;
    private static final int LIMIT = 8;
    private static final int SCALING = 9;
    private static final int NESTED = 1;
    private static final int STACKED = 2;

    public static void main(String[] args) {
        turnedSheets();
        folds();
        cutSheets();
        schemesOneBehindTheOther();
        pagesToldRight();
        bindings();
        theLeastNumberOfSheets();
        blankPages();
        depths();
        creeps();
        scales();
        placesInCells();
        sidesOfCreep();
        runs();
        runsThatThrow();
        runsOfPagesToldWrong();
        brokenPages();
        placesThatAre();
        placesThatAreNot();
        foldedPlaces();
        creepOfPages();
        whatIsLaid();
        fiveHundredAndTwelveCalls();
        CHECKS.end();
    }

    /** The sides of the only sheet of a scheme, all of its pages being there. */
    private static String sides(String scheme, int cells, int... settings) {
        ImposeSheets x = Checks.with(scheme, settings);
        CHECKS.due("run of " + scheme, 1, x.run(2 * cells));
        return Checks.bothSides(x, 0, cells);
    }

    private static void dueIndex(String what, Checks.Call call) {
        CHECKS.dueThrow(what, IndexOutOfBoundsException.class, call);
    }

    private static void turnedSheets() {
        CHECKS.words("terms", "the back of cell (x, y) is seen at (columns - 1 - x, y)");
        CHECKS.due("3x2", "1,3,5,7,9,11/6,4,2,12,10,8", sides("3x2", 6, BINDING, STACKED));
        CHECKS.due("one column", "1,3,5/2,4,6", sides("1x3", 3, BINDING, STACKED));
        CHECKS.words("terms", "at (x, rows - 1 - y), and upside down");
        CHECKS.due("3x2", "1,3,5,7,9,11/8!,10!,12!,2!,4!,6!", sides("3x2", 6, BINDING, STACKED, WAY, 1));
        CHECKS.due("one row", "1,3,5/2!,4!,6!", sides("3x1", 3, BINDING, STACKED, WAY, 1));
        CHECKS.due("heads down are up then", "2!,3/4!,1", sides("1x2T", 2, WAY, 1));
    }

    private static void folds() {
        CHECKS.words("terms", "R: the right half goes over onto the left one");
        CHECKS.due("4x1RR", "7,2,3,6/5,4,1,8", sides("4x1RR", 4));
        CHECKS.due("4x1LR", "3,6,7,2/1,8,5,4", sides("4x1LR", 4));
        CHECKS.words("terms", "L: likewise the left half onto the right one.");
        CHECKS.due("4x1LL", "6,3,2,7/8,1,4,5", sides("4x1LL", 4));
        CHECKS.due("4x1RL", "2,7,6,3/4,5,8,1", sides("4x1RL", 4));
        CHECKS.words("terms", "T: the upper half onto the lower one");
        CHECKS.due("1x4TT", "6!,3,2!,7/5!,4,1!,8", sides("1x4TT", 4));
        CHECKS.due("1x4BT", "2!,7,6!,3/1!,8,5!,4", sides("1x4BT", 4));
        CHECKS.due("2x2TL", "3!,6!,2,7/5!,4!,8,1", sides("2x2TL", 4));
        CHECKS.words("terms", "B: the lower half onto the upper one, likewise.");
        CHECKS.due("1x4BB", "7,2!,3,6!/8,1!,4,5!", sides("1x4BB", 4));
        CHECKS.due("1x4BB the other way", "7,2!,3,6!/5,4!,1,8!", sides("1x4BB", 4, WAY, 1));
        CHECKS.due("1x4TB", "3,6!,7,2!/4,5!,8,1!", sides("1x4TB", 4));
        CHECKS.due("2x2RB", "7,6,2!,3!/5,8,4!,1!", sides("2x2RB", 4));
    }

    private static void schemesOneBehindTheOther() {
        CHECKS.words("terms", "at first the one of its cell, front up, head up");
        String[] schemes = {"1x4TT", "2x2", "4x1LL", "4x1", "2x2TL", "1x4TB", "1x4", "4x1LR", "2x2RB"};
        String[] sides = {"6!,3,2!,7/5!,4,1!,8", "1,3,5,7/4,2,8,6", "6,3,2,7/8,1,4,5", "1,3,5,7/8,6,4,2",
            "3!,6!,2,7/5!,4!,8,1", "3,6!,7,2!/4,5!,8,1!", "1,3,5,7/2,4,6,8", "3,6,7,2/1,8,5,4", "7,6,2!,3!/5,8,4!,1!"};
        for (int step = 1; step <= 8; step++) {
            ImposeSheets x = new ImposeSheets();
            for (int i = 0, at = 0; i < 9; i++, at = (at + step) % 9) {
                CHECKS.due("scheme " + schemes[at], 4, Checks.scheme(x, schemes[at]));
                x.setting(BINDING, schemes[at].length() == 3 ? STACKED : 0);
                CHECKS.due("run of " + schemes[at], 1, x.run(8));
                CHECKS.due(schemes[at], sides[at], Checks.bothSides(x, 0, 4));
            }
        }
        CHECKS.words("terms", "Without = it is FOUND.");
        ImposeSheets x = new ImposeSheets();
        String[] told = {"2x1R=1,2/3,4", "2x1L=1,2/3,4", "1x2T=1,2/3,4Z", "1x2T=1,2/3,4"};
        for (int i = 0; i < 8; i++) {
            Checks.scheme(x, told[i % 4]);
            CHECKS.due("told wrong: " + told[i % 4], true, x.broken() > 0);
            Checks.scheme(x, told[i / 2 % 4]);
            CHECKS.due("found behind it", 2, Checks.scheme(x, "1x2B"));
            CHECKS.due("found is right", 0, x.broken());
            CHECKS.due("found is laid", 1, x.run(4));
            CHECKS.due("as it was found", "3,2!/4,1!", Checks.bothSides(x, 0, 2));
            Checks.scheme(x, "2x1R=1,2/3,4");
        }
    }

    private static void cutSheets() {
        CHECKS.words("terms", "Leaf k of a sheet that is cut is cell k, front up, head up.");
        CHECKS.due("one cell", "1/2", sides("1x1", 1, BINDING, STACKED));
        String front = "1,3,5,7,9,11,13,15,17,19,21,23,25,27,29,31";
        String back = "8,6,4,2,16,14,12,10,24,22,20,18,32,30,28,26";
        CHECKS.due("sixteen cells", front + "/" + back, sides("4x4", 16, BINDING, STACKED));
    }

    private static void pagesToldRight() {
        CHECKS.words("terms", "told ones are RIGHT, if they do, too: there are all of 1 .. 2 cells");
        CHECKS.due("all", 1, Checks.with("2x1R=3,2/1,4").run(4));
        String[] wrong = {"1,2/1,4", "3,2/3,4", "3,2/1,1", "3,3/1,4", "3,2/4,1", "2,3/1,4", "3!,2/1,4", "3,2/1,4!"};
        for (String pages : wrong) {
            CHECKS.due(pages, 0, Checks.with("2x1R=" + pages).run(4));
        }
        CHECKS.due("the one cell", 1, Checks.with("1x1=1/2", BINDING, STACKED).run(2));
        CHECKS.due("the one cell, 1 twice", 0, Checks.with("1x1=1/1", BINDING, STACKED).run(2));
    }

    private static void bindings() {
        CHECKS.words("terms", "GATHERED (binding 0): P s + p.");
        ImposeSheets x = Checks.with("2x1R");
        x.run(80);
        CHECKS.due("the first sheet", "3,2/1,4", Checks.bothSides(x, 0, 2));
        CHECKS.due("the last sheet", "79,78/77,80", Checks.bothSides(x, 19, 2));
        CHECKS.words("terms", "NESTED (1): for p up to P / 2 (P / 2) s + p, otherwise S P - (P / 2) (s + 1) + p - P / 2.");
        x.setting(BINDING, NESTED);
        x.run(80);
        CHECKS.due("the outermost sheet", "79,2/1,80", Checks.bothSides(x, 0, 2));
        CHECKS.due("the innermost sheet", "41,40/39,42", Checks.bothSides(x, 19, 2));
        x.run(4);
        CHECKS.due("one sheet", "3,2/1,4", Checks.bothSides(x, 0, 2));
        CHECKS.words("terms", "STACKED (2; only of sheets that are cut, and these only so)");
        ImposeSheets cut = Checks.with("2x1", BINDING, STACKED);
        cut.run(80);
        CHECKS.due("the first sheet of the stack", "1,41/42,2", Checks.bothSides(cut, 0, 2));
        CHECKS.due("the last sheet of the stack", "39,79/80,40", Checks.bothSides(cut, 19, 2));
    }

    private static void theLeastNumberOfSheets() {
        CHECKS.words("terms", "S is the least number for which S P is n, the pages that there are, or more.");
        ImposeSheets x = Checks.with("2x1R");
        for (int sheets = 1; sheets <= 20; sheets++) {
            CHECKS.due("run of " + 4 * sheets, sheets, x.run(4 * sheets));
            CHECKS.due("blank ones", 0, x.laid(2));
            CHECKS.due("run of " + (4 * sheets - 3), sheets, x.run(4 * sheets - 3));
            CHECKS.due("blank ones", 3, x.laid(2));
        }
    }

    private static String folded(int blanksFirst, int n) {
        ImposeSheets x = Checks.with("2x1R", BLANKS_FIRST, blanksFirst);
        x.run(n);
        return Checks.folded(x);
    }

    private static void blankPages() {
        CHECKS.words("terms", "BLANK are pages G above n");
        CHECKS.due("all but one", "1,0,0,0", folded(0, 1));
        CHECKS.due("one", "1,2,3,0", folded(0, 3));
        CHECKS.due("none", "1,2,3,4", folded(0, 4));
        CHECKS.due("a sheet for one page", "1,2,3,4,5,0,0,0", folded(0, 5));
        CHECKS.words("terms", "with blanks first, the first S P - n; then page G is G less their number");
        CHECKS.due("all but one", "0,0,0,1", folded(1, 1));
        CHECKS.due("one", "0,1,2,3", folded(1, 3));
        CHECKS.due("none", "1,2,3,4", folded(1, 4));
        CHECKS.due("a sheet for one page", "0,0,0,1,2,3,4,5", folded(1, 5));
        ImposeSheets x = Checks.with("2x1R", BLANKS_FIRST, 1);
        x.run(5);
        CHECKS.due("the first sheet", "0,0/0,1", Checks.bothSides(x, 0, 2));
        CHECKS.due("the last sheet", "4,3/2,5", Checks.bothSides(x, 1, 2));
        ImposeSheets cut = Checks.with("1x1", BINDING, STACKED, BLANKS_FIRST, 1);
        cut.run(1);
        CHECKS.due("the first side is blank", "0/1", Checks.bothSides(cut, 0, 1));
    }

    /** Paper 1000 makes the creep of a page its leaf's depth. */
    private static void depths(String scheme, int binding, int n, int... leaves) {
        ImposeSheets x = Checks.with(scheme, BINDING, binding, PAPER, 1000, LIMIT, 10000);
        x.run(n);
        for (int page = 1; page <= n && page <= 2 * leaves.length; page++) {
            CHECKS.due(scheme + " binding " + binding + " page " + page, leaves[(page - 1) / 2], x.creep(page));
        }
    }

    private static void depths() {
        CHECKS.words("terms", "gathered, of leaf k of its booklet of L leaves, the lesser of k and L - 1 - k");
        depths("2x1R", 0, 12, 0, 0, 0, 0, 0, 0);
        depths("2x2RB", 0, 16, 0, 1, 1, 0, 0, 1, 1, 0);
        depths("4x4RLTB", 0, 34, 0, 1, 2, 3, 4, 5, 6, 7, 7, 6, 5, 4, 3, 2, 1, 0, 0);
        CHECKS.words("terms", "nested likewise of the book's leaves (page G is on leaf (G - 1) / 2 of S L)");
        depths("2x1R", NESTED, 4, 0, 0);
        depths("2x1R", NESTED, 12, 0, 1, 2, 2, 1, 0);
        depths("2x1R", NESTED, 9, 0, 1, 2, 2, 1);
        ImposeSheets x = Checks.with("4x4RLTB", BINDING, NESTED, PAPER, 1000, LIMIT, 10000);
        x.run(640);
        int[] pages = {1, 2, 3, 318, 319, 320, 321, 322, 323, 638, 639, 640};
        int[] want = {0, 0, 1, 158, 159, 159, 159, 159, 158, 1, 0, 0};
        for (int i = 0; i < pages.length; i++) {
            CHECKS.due("page " + pages[i] + " of 640", want[i], x.creep(pages[i]));
        }
        CHECKS.words("terms", "stacked 0");
        depths("2x2", STACKED, 16, 0, 0, 0, 0, 0, 0, 0, 0);
    }

    /** The creep of the innermost page of a nested book of so many leaves. */
    private static void creep(int sheets, int paper, int limit, int want) {
        ImposeSheets x = Checks.with("2x1R", BINDING, NESTED, PAPER, paper, LIMIT, limit);
        x.run(4 * sheets);
        CHECKS.due("depth " + (sheets - 1) + " paper " + paper + " limit " + limit, want, x.creep(2 * sheets));
    }

    private static void creeps() {
        CHECKS.words("terms", "CREEP: the lesser of depth * paper / 1000 and the limit.");
        creep(1, 10000, 10000, 0);
        creep(2, 0, 10000, 0);
        creep(2, 999, 10000, 0);
        creep(2, 1000, 10000, 1);
        creep(2, 1999, 10000, 1);
        creep(4, 333, 10000, 0);
        creep(4, 334, 10000, 1);
        creep(20, 10000, 10000, 190);
        creep(20, 10000, 191, 190);
        creep(20, 10000, 190, 190);
        creep(20, 10000, 189, 189);
        creep(20, 10000, 1, 1);
        creep(20, 10000, 0, 0);
        ImposeSheets x = Checks.with("4x4RLTB", BINDING, NESTED, PAPER, 10000, LIMIT, 10000);
        x.run(640);
        CHECKS.due("the greatest", 1590, x.creep(320));
    }

    private static void scale(int scaling, int cellWide, int cellHigh, int wide, int high, int want) {
        ImposeSheets x = Checks.with("2x1R", CELL_WIDTH, cellWide, CELL_HEIGHT, cellHigh, PAGE_WIDTH, wide,
                PAGE_HEIGHT, high, SCALING, scaling);
        x.run(4);
        CHECKS.due(wide + " by " + high + " in " + cellWide + " by " + cellHigh, want, x.at(0, 0, 0, 4));
    }

    private static void scales() {
        CHECKS.words("terms", "SCALE 1000, but where it is wider or higher, and pages are to be scaled");
        scale(1, 1000, 1000, 1000, 1000, 1000);
        scale(1, 1000, 1000, 500, 500, 1000);
        scale(1, 100000, 100000, 1, 1, 1000);
        scale(1, 1000, 1000, 1001, 1, 999);
        scale(1, 1000, 1000, 1, 1001, 999);
        scale(1, 1000, 2000, 2000, 1000, 500);
        scale(1, 2000, 1000, 1000, 2000, 500);
        scale(0, 1000, 1000, 1001, 1001, 1000);
        scale(0, 1, 1, 100000, 100000, 1000);
        CHECKS.words("terms", "the lesser of 1000 W / w and 1000 H / h (1 at least)");
        scale(1, 1000, 1000, 2000, 3000, 333);
        scale(1, 1000, 1000, 3000, 2000, 333);
        scale(1, 100000, 1, 100000, 2, 500);
        scale(1, 1, 100000, 2, 100000, 500);
        scale(1, 200, 200, 100000, 100000, 2);
        scale(1, 199, 200, 100000, 100000, 1);
        scale(1, 100, 100, 100000, 100000, 1);
        scale(1, 99, 99, 100000, 100000, 1);
        scale(1, 1, 1, 100000, 1, 1);
        scale(1, 1, 1, 1, 100000, 1);
    }

    /** Where the page of a sheet's first or last place of its front is, told by a cell and a page that are squares. */
    private static void inCell(String scheme, int i, int scaling, int cell, int page, int wantX, int wantY) {
        ImposeSheets x = Checks.with(scheme, BINDING, STACKED, CELL_WIDTH, cell, CELL_HEIGHT, cell, PAGE_WIDTH, page,
                PAGE_HEIGHT, page, SCALING, scaling);
        x.run(2 * 16);
        CHECKS.due(page + " in " + cell + " across", wantX, x.at(0, 0, i, 2));
        CHECKS.due(page + " in " + cell + " down", wantY, x.at(0, 0, i, 3));
    }

    private static void placesInCells() {
        CHECKS.words("terms", "It is at W x + (W - w') / 2 (quotients downward)");
        inCell("4x4", 0, 0, 1000, 1000, 0, 0);
        inCell("4x4", 0, 0, 1000, 999, 0, 0);
        inCell("4x4", 0, 0, 1000, 998, 1, 1);
        inCell("4x4", 0, 0, 1000, 1001, -1, -1);
        inCell("4x4", 0, 0, 1000, 1002, -1, -1);
        inCell("4x4", 0, 0, 1000, 1003, -2, -2);
        inCell("4x4", 0, 0, 1, 100000, -50000, -50000);
        inCell("4x4", 0, 0, 100000, 1, 49999, 49999);
        inCell("4x4", 15, 0, 100000, 100000, 300000, 300000);
        inCell("8x2", 15, 0, 100000, 1, 749999, 149999);
        inCell("2x8", 15, 0, 100000, 1, 149999, 749999);
        inCell("4x4", 5, 0, 10, 6, 12, 12);
        CHECKS.words("terms", "Then w' is w * scale / 1000, h' likewise.");
        // Downward: 2997 by 333 is 998.001, and 1001 by 999 is 999.999; 100000 by 1 is 100.
        inCell("4x4", 0, 1, 1000, 2997, 1, 1);
        inCell("4x4", 0, 1, 1000, 1001, 0, 0);
        inCell("4x4", 15, 1, 1, 100000, 3 - 50, 3 - 50);
        inCell("4x4", 0, 1, 1000, 997, 1, 1);
    }

    private static void across(ImposeSheets x, int side, int i, int want) {
        CHECKS.due("side " + side + " place " + i, want, x.at(1, side, i, 2));
    }

    private static void sidesOfCreep() {
        // Two sheets of 7,6,2!,3!/5,8,4!,1! nested: the inner one has pages 11,10,6!,7!/9,12,8!,5!.
        // The leaves of 5, 6, 11 and 12 lie two deep, those of 7 to 10 three deep.
        ImposeSheets x = Checks.with("2x2RB", BINDING, NESTED, PAPER, 1000, LIMIT, 10000);
        x.run(16);
        CHECKS.due("the inner sheet", "11,10,6!,7!/9,12,8!,5!", Checks.bothSides(x, 1, 4));
        CHECKS.words("terms", "its creep less if it is G odd and not upside down as it is seen");
        across(x, 0, 0, -2);
        across(x, 1, 0, -3);
        CHECKS.words("terms", "or even and upside down");
        across(x, 0, 2, -2);
        across(x, 1, 2, -3);
        CHECKS.words("terms", "else its creep more");
        across(x, 0, 1, 1003);
        across(x, 0, 3, 1003);
        across(x, 1, 1, 1002);
        across(x, 1, 3, 1002);
        CHECKS.words("terms", "x and y being the place where it is seen");
        x.setting(WAY, 1);
        x.run(16);
        CHECKS.due("turned the other way", "11,10,6!,7!/5,8,12!,9!", Checks.bothSides(x, 1, 4));
        across(x, 1, 0, -2);
        across(x, 1, 1, 1003);
        across(x, 1, 2, -2);
        across(x, 1, 3, 1003);
        // G is the place in the book, blank ones among them: page 15 is G 16 here.
        x.setting(WAY, 0);
        x.setting(BLANKS_FIRST, 1);
        x.run(15);
        CHECKS.due("the inner sheet with a blank page first", "10,9,5!,6!/8,11,7!,4!", Checks.bothSides(x, 1, 4));
        across(x, 0, 0, -2);
        across(x, 0, 1, 1003);
        across(x, 1, 3, 1002);
    }

    private static void runs() {
        CHECKS.words("promise 5", "how many sheets (up to 20)");
        ImposeSheets least = Checks.with("1x1", BINDING, STACKED);
        CHECKS.due("1 of 2 pages", 1, least.run(1));
        CHECKS.due("2 of 2 pages", 1, least.run(2));
        CHECKS.due("3 pages", 2, least.run(3));
        CHECKS.due("39 pages", 20, least.run(39));
        CHECKS.due("40 pages", 20, least.run(40));
        ImposeSheets most = Checks.with("4x4RLTB");
        CHECKS.due("1 of 32 pages", 1, most.run(1));
        CHECKS.due("32 pages", 1, most.run(32));
        CHECKS.due("33 pages", 2, most.run(33));
        CHECKS.due("608 pages", 19, most.run(608));
        CHECKS.due("609 pages", 20, most.run(609));
        CHECKS.due("640 pages", 20, most.run(640));
        CHECKS.due("the last place", 640, most.fold(639));
    }

    private static void runsThatThrow() {
        CHECKS.words("promise 5", "IllegalArgumentException when n is not 1 .. 20 P");
        ImposeSheets least = Checks.with("1x1", BINDING, STACKED);
        ImposeSheets most = Checks.with("4x4RLTB");
        int[] wrong = {0, -1, 641, Integer.MIN_VALUE, Integer.MAX_VALUE, 1 << 30, 1 << 27};
        for (int n : wrong) {
            CHECKS.dueThrow("run " + n + " of 16 cells", IllegalArgumentException.class, () -> most.run(n));
            CHECKS.dueThrow("run " + n + " of 1 cell", IllegalArgumentException.class, () -> least.run(n));
        }
        CHECKS.dueThrow("run 41 of 1 cell", IllegalArgumentException.class, () -> least.run(41));
        CHECKS.words("promise 5", "(without a scheme: when it is below 1)");
        ImposeSheets none = new ImposeSheets();
        CHECKS.dueThrow("run 0", IllegalArgumentException.class, () -> none.run(0));
        CHECKS.dueThrow("run -1", IllegalArgumentException.class, () -> none.run(-1));
        CHECKS.dueThrow("run least", IllegalArgumentException.class, () -> none.run(Integer.MIN_VALUE));
        CHECKS.words("promise 5", "IllegalStateException when there is no scheme, or the binding is not one for it");
        CHECKS.dueThrow("run 1", IllegalStateException.class, () -> none.run(1));
        CHECKS.dueThrow("run 641", IllegalStateException.class, () -> none.run(641));
        CHECKS.dueThrow("run most", IllegalStateException.class, () -> none.run(Integer.MAX_VALUE));
        for (int binding = 0; binding < 3; binding++) {
            ImposeSheets cut = Checks.with("2x2", BINDING, binding);
            ImposeSheets folded = Checks.with("2x2RB", BINDING, binding);
            boolean stacked = binding == STACKED;
            String no = "throws.IllegalStateException";
            CHECKS.due("cut, " + binding, stacked ? "20" : no, Checks.outcome(() -> cut.run(160)));
            CHECKS.due("folded, " + binding, stacked ? no : "20", Checks.outcome(() -> folded.run(160)));
            String wrongBinding = stacked ? Checks.outcome(() -> folded.run(161)) : Checks.outcome(() -> cut.run(161));
            CHECKS.due("what is named first", "throws.IllegalArgumentException", wrongBinding);
        }
        ImposeSheets wrongToo = Checks.with("2x1R=1,2/3,4", BINDING, STACKED);
        CHECKS.dueThrow("told wrong, too", IllegalStateException.class, () -> wrongToo.run(80));
    }

    private static void runsOfPagesToldWrong() {
        CHECKS.words("promise 5", "0 when the pages told are not right, and what was laid before stays");
        ImposeSheets x = Checks.with("2x1R", PAPER, 10000);
        Checks.scheme(x, "2x1R=1,2/3,4");
        CHECKS.due("nothing was laid", 0, x.run(80));
        for (int what = 0; what < 4; what++) {
            CHECKS.due("laid " + what, 0, x.laid(what));
        }
        dueIndex("nothing is at the first place", () -> x.at(0, 0, 0, 0));
        Checks.scheme(x, "1x2B");
        x.run(7);
        Checks.scheme(x, "2x1R=1,2/3,4");
        x.setting(BINDING, NESTED);
        CHECKS.due("not laid", 0, x.run(1));
        CHECKS.due("sheets", 2, x.laid(0));
        CHECKS.due("pages", 4, x.laid(1));
        CHECKS.due("blank ones", 1, x.laid(2));
        CHECKS.due("sheet 0", "3,2!/4,1!", Checks.bothSides(x, 0, 2));
        CHECKS.due("sheet 1", "7,6!/0,5!", Checks.bothSides(x, 1, 2));
        CHECKS.due("the book", "1,2,3,4,5,6,7,0", Checks.folded(x));
        CHECKS.due("creep", 0, x.creep(7));
    }

    private static void brokenPages() {
        CHECKS.words("promise 6", "The first page of the booklet, 1 .. P, that is not where and as the latest scheme's folding has it");
        String right = "7,6,2!,3!/5,8,4!,1!";
        CHECKS.due("right", 0, Checks.with("2x2RB=" + right).broken());
        for (int page = 1; page <= 8; page++) {
            String mark = right.contains(page + "!") ? page + "!" : page + "";
            String turned = right.replace(mark, mark.endsWith("!") ? page + "" : page + "!");
            CHECKS.due(page + " turned", page, Checks.with("2x2RB=" + turned).broken());
            int other = page % 8 + 1;
            String twice = right.replace(page + "", other + "");
            CHECKS.due(other + " in the place of " + page, page, Checks.with("2x2RB=" + twice).broken());
        }
        CHECKS.due("2 and 8 changed", 2, Checks.with("2x2RB=7,6,8!,3!/5,2,4!,1!").broken());
        CHECKS.due("all turned", 1, Checks.with("2x2RB=7!,6!,2,3/5!,8!,4,1").broken());
        ImposeSheets x = Checks.with("4x4=1,3,5,7,9,11,13,15,17,19,21,23,25,27,29,31"
                + "/8,6,4,2,16,14,12,10,24,22,20,18,32!,30,28,26");
        CHECKS.due("the last page of sixteen cells", 32, x.broken());
        x.setting(WAY, 1);
        CHECKS.due("turned the other way", 2, x.broken());
        CHECKS.words("promise 6", "0 when all are right, or there is none");
        CHECKS.due("no scheme", 0, new ImposeSheets().broken());
        CHECKS.due("found", 0, Checks.with("2x2RB").broken());
        CHECKS.due("cut", 0, Checks.with("1x1").broken());
        CHECKS.due("told", 0, Checks.with("1x1=1/2").broken());
        CHECKS.due("told for the other way", 2, Checks.with("1x1=1/2", WAY, 1).broken());
        Checks.scheme(x, "4x4");
        CHECKS.due("found behind a told one", 0, x.broken());
    }

    private static void placesThatAre() {
        CHECKS.words("promise 7", "What is laid, of place i (as it is seen) of the front (side 0) or back (1) of a sheet");
        ImposeSheets x = Checks.with("4x4RLTB", CELL_WIDTH, 900, CELL_HEIGHT, 1200);
        x.run(640);
        boolean[] seen = new boolean[33];
        for (int side = 0; side < 2; side++) {
            for (int i = 0; i < 16; i++) {
                int page = x.at(19, side, i, 0) - 608;
                CHECKS.due("page " + page + " is one of the last sheet's, and once", true, page > 0 && page <= 32 && !seen[page]);
                seen[page > 0 && page <= 32 ? page : 0] = true;
                CHECKS.due("across", 900 * (i % 4) - 50, x.at(19, side, i, 2));
                CHECKS.due("down", 1200 * (i / 4) + 100, x.at(19, side, i, 3));
            }
        }
        CHECKS.words("promise 7", "0 for 0 to 4 when it is blank");
        ImposeSheets blank = Checks.with("1x2B", PAPER, 5000, LIMIT, 7, PAGE_WIDTH, 10, PAGE_HEIGHT, 10);
        blank.run(5);
        CHECKS.due("one page on the last sheet", "0,0/0,5!", Checks.bothSides(blank, 1, 2));
        blank.run(1);
        CHECKS.due("place 1 of the front would be upside down", "0,0/0,1!", Checks.bothSides(blank, 0, 2));
        for (int what = 0; what <= 4; what++) {
            CHECKS.due("blank, " + what, 0, blank.at(0, 0, 1, what));
            CHECKS.due("blank, " + what, 0, blank.at(0, 1, 0, what));
            CHECKS.due("not blank, " + what, true, blank.at(0, 1, 1, what) != 0);
        }
    }

    private static void placesThatAreNot() {
        CHECKS.words("promise 7", "IndexOutOfBoundsException.");
        ImposeSheets x = Checks.with("3x2", BINDING, STACKED);
        dueIndex("before any run", () -> x.at(0, 0, 0, 0));
        x.run(24);
        CHECKS.due("the last that there is", 1000, x.at(1, 1, 5, 4));
        x.run(13);
        CHECKS.due("the last that there is, blank", 0, x.at(1, 1, 5, 4));
        int[] far = {-1, Integer.MIN_VALUE, Integer.MAX_VALUE};
        for (int v : far) {
            dueIndex("sheet " + v, () -> x.at(v, 0, 0, 0));
            dueIndex("side " + v, () -> x.at(0, v, 0, 0));
            dueIndex("place " + v, () -> x.at(0, 0, v, 0));
            dueIndex("what " + v, () -> x.at(0, 0, 0, v));
            dueIndex("what " + v + " of a blank place", () -> x.at(1, 1, 5, v));
        }
        dueIndex("sheet 2 of 2", () -> x.at(2, 0, 0, 0));
        dueIndex("side 2", () -> x.at(0, 2, 0, 0));
        dueIndex("place 6 of 6", () -> x.at(0, 0, 6, 0));
        dueIndex("what 5", () -> x.at(0, 0, 0, 5));
        dueIndex("what 5 of a blank place", () -> x.at(1, 1, 5, 5));
        x.run(12);
        dueIndex("sheet 1, which was laid before", () -> x.at(1, 0, 0, 0));
        ImposeSheets all = Checks.with("8x2RRRB");
        all.run(640);
        dueIndex("sheet 20 of 20", () -> all.at(20, 0, 0, 0));
        dueIndex("place 16 of 16", () -> all.at(0, 0, 16, 0));
        CHECKS.due("the last of all", 1000, all.at(19, 1, 15, 4));
    }

    private static void foldedPlaces() {
        CHECKS.words("promise 8", "0 for a blank one");
        ImposeSheets x = Checks.with("2x1R");
        x.run(5);
        CHECKS.due("the last page", 5, x.fold(4));
        CHECKS.due("the first blank one", 0, x.fold(5));
        CHECKS.due("the last blank one", 0, x.fold(7));
        CHECKS.words("promise 8", "IndexOutOfBoundsException when i is not 0 .. S P - 1");
        int[] wrong = {-1, 8, 9, Integer.MIN_VALUE, Integer.MAX_VALUE};
        for (int i : wrong) {
            dueIndex("fold " + i, () -> x.fold(i));
        }
        CHECKS.due("fold 0", 1, x.fold(0));
        x.run(4);
        dueIndex("fold 4 of one sheet", () -> x.fold(4));
        CHECKS.due("fold 3 of one sheet", 4, x.fold(3));
        ImposeSheets none = Checks.with("2x1R");
        dueIndex("fold 0 before any run", () -> none.fold(0));
        dueIndex("fold -1 before any run", () -> none.fold(-1));
    }

    private static void creepOfPages() {
        CHECKS.words("promise 9", "IndexOutOfBoundsException when it was not laid");
        for (int blanksFirst = 0; blanksFirst < 2; blanksFirst++) {
            ImposeSheets x = Checks.with("2x1R", BLANKS_FIRST, blanksFirst, BINDING, NESTED, PAPER, 9000, LIMIT, 10000);
            dueIndex("creep 0 before any run", () -> x.creep(0));
            dueIndex("creep 1 before any run", () -> x.creep(1));
            x.run(10);
            int[] wrong = {0, -1, 11, 12, 13, Integer.MIN_VALUE, Integer.MAX_VALUE};
            for (int page : wrong) {
                dueIndex("creep " + page, () -> x.creep(page));
            }
            CHECKS.due("the first page", blanksFirst == 1 ? 9 : 0, x.creep(1));
            CHECKS.due("the last page", blanksFirst == 1 ? 0 : 9, x.creep(10));
            x.run(12);
            CHECKS.due("the last place", 0, x.creep(12));
        }
    }

    private static void laid(ImposeSheets x, int n, int sheets, int pages, int blanks, int over) {
        x.run(n);
        CHECKS.due("sheets for " + n, sheets, x.laid(0));
        CHECKS.due("pages of a booklet", pages, x.laid(1));
        CHECKS.due("blank ones for " + n, blanks, x.laid(2));
        CHECKS.due("pages over their cells", over, x.laid(3));
    }

    private static void whatIsLaid() {
        CHECKS.words("promise 10", "How many sheets are laid (what = 0), pages of a booklet P (1), blank ones (2)");
        ImposeSheets x = Checks.with("4x4RLTB");
        laid(x, 1, 1, 32, 31, 0);
        laid(x, 31, 1, 32, 1, 0);
        laid(x, 32, 1, 32, 0, 0);
        laid(x, 640, 20, 32, 0, 0);
        laid(Checks.with("1x1", BINDING, STACKED, BLANKS_FIRST, 1), 1, 1, 2, 1, 0);
        CHECKS.words("promise 10", "whether pages are wider or higher than cells, and not scaled (3)");
        laid(Checks.with("2x1R", PAGE_WIDTH, 1001), 4, 1, 4, 0, 1);
        laid(Checks.with("2x1R", PAGE_HEIGHT, 1001), 4, 1, 4, 0, 1);
        laid(Checks.with("2x1R", PAGE_WIDTH, 999, PAGE_HEIGHT, 1001), 4, 1, 4, 0, 1);
        laid(Checks.with("2x1R", PAGE_WIDTH, 999, PAGE_HEIGHT, 999), 4, 1, 4, 0, 0);
        laid(Checks.with("2x1R", PAGE_WIDTH, 1000, CELL_WIDTH, 1000), 4, 1, 4, 0, 0);
        laid(Checks.with("2x1R", PAGE_WIDTH, 1001, SCALING, 1), 4, 1, 4, 0, 0);
        laid(Checks.with("2x1R", PAGE_WIDTH, 100000, CELL_WIDTH, 1, SCALING, 1), 4, 1, 4, 0, 0);
        CHECKS.words("promise 10", "0 without any");
        ImposeSheets none = new ImposeSheets();
        ImposeSheets over = Checks.with("2x1R", PAGE_WIDTH, 1001);
        for (int what = 0; what < 4; what++) {
            CHECKS.due("of a new object, " + what, 0, none.laid(what));
            CHECKS.due("of a scheme that was not laid, " + what, 0, over.laid(what));
        }
        CHECKS.words("promise 10", "IndexOutOfBoundsException for another what");
        int[] wrong = {-1, 4, 5, Integer.MIN_VALUE, Integer.MAX_VALUE};
        for (int what : wrong) {
            dueIndex("laid " + what, () -> x.laid(what));
            dueIndex("laid " + what + " of a new object", () -> none.laid(what));
        }
    }

    private static void fiveHundredAndTwelveCalls() {
        CHECKS.words("what it is", "An object is used for at most 512 calls after it has been made");
        ImposeSheets x = new ImposeSheets();
        x.type(Checks.packed("1x2B"), 4);
        x.scheme();
        for (int call = 2; call < 509; call += 3) {
            x.run(1 + call % 80);
            x.type(call, 8);
            x.scheme();
        }
        CHECKS.due("call 510", 2, x.run(7));
        CHECKS.due("call 511", 7, x.at(1, 0, 0, 0));
        CHECKS.due("call 512", 1, x.at(1, 0, 1, 1));
    }
}
