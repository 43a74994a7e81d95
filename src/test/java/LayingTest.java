/** Promises 5 to 10, worked out by hand. */
public final class LayingTest {
    private static final Checks CHECKS = new Checks();
    private static final int BINDING = 0;
    private static final int WAY = 1;
    private static final int BLANKS_FIRST = 2;

    public static void main(String[] args) {
        runThrows();
        foundPages();
        toldPages();
        brokenPages();
        gathered();
        nested();
        stacked();
        blanksFirst();
        creepOfPages();
        placesOfPages();
        scaledPages();
        wrongPlaces();
        whatIsLaidStays();
        CHECKS.end();
    }

    private static ImposeSheets with(String scheme, int... settings) {
        ImposeSheets x = new ImposeSheets();
        CHECKS.due("scheme " + scheme + " is taken", true, Checks.scheme(x, scheme) > 0);
        for (int i = 0; i < settings.length; i += 2) {
            x.setting(settings[i], settings[i + 1]);
        }
        return x;
    }

    private static void runThrows() {
        ImposeSheets none = new ImposeSheets();
        CHECKS.dueThrow("run(0) without a scheme", IllegalArgumentException.class, () -> none.run(0));
        CHECKS.dueThrow("run(-1) without a scheme", IllegalArgumentException.class, () -> none.run(-1));
        CHECKS.dueThrow("run(most) without a scheme", IllegalStateException.class, () -> none.run(Integer.MAX_VALUE));
        ImposeSheets x = with("2x1R");
        CHECKS.dueThrow("run(0)", IllegalArgumentException.class, () -> x.run(0));
        CHECKS.dueThrow("run(81)", IllegalArgumentException.class, () -> x.run(81));
        CHECKS.dueThrow("run(least)", IllegalArgumentException.class, () -> x.run(Integer.MIN_VALUE));
        CHECKS.due("nothing is laid", 0, x.laid(0));
        CHECKS.due("run(80)", 20, x.run(80));
        CHECKS.due("run(77)", 20, x.run(77));
        CHECKS.due("run(76)", 19, x.run(76));
        CHECKS.due("run(1)", 1, x.run(1));
        x.setting(BINDING, 2);
        CHECKS.dueThrow("folded sheets stacked", IllegalStateException.class, () -> x.run(1));
        CHECKS.dueThrow("folded sheets stacked, too many pages", IllegalArgumentException.class, () -> x.run(81));
        ImposeSheets cut = with("2x1");
        CHECKS.dueThrow("cut sheets gathered", IllegalStateException.class, () -> cut.run(1));
        cut.setting(BINDING, 1);
        CHECKS.dueThrow("cut sheets nested", IllegalStateException.class, () -> cut.run(1));
        cut.setting(BINDING, 2);
        CHECKS.due("cut sheets stacked", 1, cut.run(1));
    }

    private static void found(String scheme, int way, String want) {
        boolean cut = Character.isDigit(scheme.charAt(scheme.length() - 1));
        ImposeSheets x = with(scheme, WAY, way, BINDING, cut ? 2 : 0);
        int pages = want.split("[,/]").length;
        CHECKS.due("run of " + scheme, 1, x.run(pages));
        CHECKS.due(scheme + " way " + way, want, Checks.bothSides(x, 0, pages / 2));
        x.setting(WAY, way);
        CHECKS.due("scheme " + scheme + "=" + want, pages / 2, Checks.scheme(x, scheme + "=" + want));
        CHECKS.due("told as found", 0, x.broken());
        CHECKS.due("run as found", 1, x.run(pages));
        CHECKS.due("told and found alike", want, Checks.bothSides(x, 0, pages / 2));
    }

    private static void foundPages() {
        found("2x1R", 0, "3,2/1,4");
        found("2x1R", 1, "3,2/4!,1!");
        found("2x1L", 0, "2,3/4,1");
        found("1x2B", 0, "3,2!/4,1!");
        found("1x2B", 1, "3,2!/1,4!");
        found("1x2T", 0, "2!,3/1!,4");
        found("2x2RB", 0, "7,6,2!,3!/5,8,4!,1!");
        found("2x2RB", 1, "7,6,2!,3!/1,4,8!,5!");
        found("2x1", 0, "1,3/4,2");
        found("2x1", 1, "1,3/2!,4!");
        found("1x1", 0, "1/2");
        found("1x1", 1, "1/2!");
        found("1x3", 0, "1,3,5/2,4,6");
        found("1x3", 1, "1,3,5/6!,4!,2!");
    }

    private static void toldPages() {
        ImposeSheets x = with("2x1R=3,2/4,1");
        CHECKS.due("told wrong", 0, x.run(4));
        CHECKS.due("nothing is laid", 0, x.laid(0));
        CHECKS.dueThrow("too many pages of a wrong scheme", IllegalArgumentException.class, () -> x.run(81));
        x.setting(BINDING, 2);
        CHECKS.dueThrow("a wrong binding of a wrong scheme", IllegalStateException.class, () -> x.run(4));
        ImposeSheets turned = with("2x1R=3,2/4!,1!");
        CHECKS.due("told for the other way", 0, turned.run(4));
        turned.setting(WAY, 1);
        CHECKS.due("told for this way", 1, turned.run(4));
        CHECKS.due("a wrong scheme later", 2, Checks.scheme(turned, "2x1R=1,2/3,4"));
        CHECKS.due("is not laid", 0, turned.run(1));
        CHECKS.due("what was laid stays", "3,2/4!,1!", Checks.bothSides(turned, 0, 2));
    }

    private static void broken(String scheme, int way, int want) {
        ImposeSheets x = with(scheme, WAY, way);
        CHECKS.due("broken " + scheme + " way " + way, want, x.broken());
    }

    private static void brokenPages() {
        broken("2x1R", 0, 0);
        broken("2x1R=3,2/1,4", 0, 0);
        broken("2x1R=3,2/1,4", 1, 1);
        broken("2x1R=3,2/4!,1!", 1, 0);
        broken("2x1R=3,2!/1,4", 0, 2);
        broken("2x1R=3!,2/1,4", 0, 3);
        broken("2x1R=3,2/1,4!", 0, 4);
        broken("2x1R=2,3/1,4", 0, 2);
        broken("2x1R=1,2/1,4", 0, 3);
        broken("2x1R=3,2/3,4", 0, 1);
        broken("1x1=2/1", 0, 1);
        CHECKS.due("broken without a scheme", 0, new ImposeSheets().broken());
    }

    private static void gathered() {
        ImposeSheets x = with("2x1R");
        CHECKS.due("gathered", 3, x.run(10));
        CHECKS.due("sheet 0", "3,2/1,4", Checks.bothSides(x, 0, 2));
        CHECKS.due("sheet 1", "7,6/5,8", Checks.bothSides(x, 1, 2));
        CHECKS.due("sheet 2", "0,10/9,0", Checks.bothSides(x, 2, 2));
        CHECKS.due("book", "1,2,3,4,5,6,7,8,9,10,0,0", Checks.folded(x));
        CHECKS.due("laid(0)", 3, x.laid(0));
        CHECKS.due("laid(1)", 4, x.laid(1));
        CHECKS.due("laid(2)", 2, x.laid(2));
        CHECKS.due("laid(3)", 0, x.laid(3));
    }

    private static void nested() {
        ImposeSheets x = with("2x1R", BINDING, 1);
        CHECKS.due("nested", 2, x.run(7));
        CHECKS.due("outer sheet", "7,2/1,0", Checks.bothSides(x, 0, 2));
        CHECKS.due("inner sheet", "5,4/3,6", Checks.bothSides(x, 1, 2));
        CHECKS.due("book", "1,2,3,4,5,6,7,0", Checks.folded(x));
    }

    private static void stacked() {
        ImposeSheets x = with("2x1", BINDING, 2);
        CHECKS.due("stacked", 2, x.run(7));
        CHECKS.due("sheet 0", "1,5/6,2", Checks.bothSides(x, 0, 2));
        CHECKS.due("sheet 1", "3,7/0,4", Checks.bothSides(x, 1, 2));
        CHECKS.due("book", "1,2,3,4,5,6,7,0", Checks.folded(x));
    }

    private static void blanksFirst() {
        ImposeSheets x = with("2x1R", BINDING, 1, BLANKS_FIRST, 1);
        CHECKS.due("blanks first", 2, x.run(5));
        CHECKS.due("outer sheet", "4,0/0,5", Checks.bothSides(x, 0, 2));
        CHECKS.due("inner sheet", "2,1/0,3", Checks.bothSides(x, 1, 2));
        CHECKS.due("book", "0,0,0,1,2,3,4,5", Checks.folded(x));
        CHECKS.due("blank ones", 3, x.laid(2));
    }

    private static void creepOfPages() {
        ImposeSheets x = with("4x1RR", 7, 1500, 8, 10000);
        CHECKS.due("eight pages twice", 2, x.run(15));
        int[] gathered = {0, 0, 1, 1, 1, 1, 0, 0, 0, 0, 1, 1, 1, 1, 0};
        for (int page = 1; page <= 15; page++) {
            CHECKS.due("gathered, creep of " + page, gathered[page - 1], x.creep(page));
        }
        x.setting(BINDING, 1);
        x.run(15);
        int[] nested = {0, 0, 1, 1, 3, 3, 4, 4, 4, 4, 3, 3, 1, 1, 0};
        for (int page = 1; page <= 15; page++) {
            CHECKS.due("nested, creep of " + page, nested[page - 1], x.creep(page));
        }
        x.setting(8, 3);
        CHECKS.due("the limit of the run stays", 4, x.creep(7));
        x.run(15);
        CHECKS.due("the limit", 3, x.creep(7));
        CHECKS.due("below the limit", 1, x.creep(3));
        x.setting(BLANKS_FIRST, 1);
        x.run(15);
        CHECKS.due("blanks first, the first page", 0, x.creep(1));
        CHECKS.due("blanks first, the second page", 1, x.creep(2));
        CHECKS.due("blanks first, the last page", 0, x.creep(15));
        int[] others = {0, -1, 16, Integer.MIN_VALUE, Integer.MAX_VALUE};
        for (int page : others) {
            CHECKS.dueThrow("creep of " + page, IndexOutOfBoundsException.class, () -> x.creep(page));
        }
        ImposeSheets cut = with("2x2", BINDING, 2, 7, 10000, 8, 10000);
        cut.run(16);
        CHECKS.due("stacked, creep", 0, cut.creep(8));
    }

    private static void place(ImposeSheets x, int side, int i, int wantX, int wantY) {
        CHECKS.due("side " + side + " place " + i + " across", wantX, x.at(0, side, i, 2));
        CHECKS.due("side " + side + " place " + i + " down", wantY, x.at(0, side, i, 3));
    }

    private static void placesOfPages() {
        // Found as 7,6,2!,3!/5,8,4!,1!: leaves 1 and 2 (pages 3 to 6) lie one deep, so they creep by 7.
        ImposeSheets x = with("2x2RB", 3, 500, 4, 300, 5, 405, 6, 301, 7, 7000, 8, 10000);
        CHECKS.due("run", 1, x.run(8));
        CHECKS.due("higher than its cell", 1, x.laid(3));
        place(x, 0, 0, 47, -1);
        place(x, 0, 1, 500 + 47 + 7, -1);
        place(x, 0, 2, 47, 300 - 1);
        place(x, 0, 3, 500 + 47 + 7, 300 - 1);
        place(x, 1, 0, 47 - 7, -1);
        place(x, 1, 1, 500 + 47, -1);
        place(x, 1, 2, 47 - 7, 300 - 1);
        place(x, 1, 3, 500 + 47, 300 - 1);
        CHECKS.due("its scale", 1000, x.at(0, 1, 3, 4));
        x.setting(BLANKS_FIRST, 1);
        CHECKS.due("run with a blank one first", 1, x.run(7));
        place(x, 0, 1, 500 + 47 + 7, -1);
        CHECKS.due("book page 6 is told as 5", 5, x.at(0, 0, 1, 0));
        for (int what = 0; what <= 4; what++) {
            CHECKS.due("a blank place tells " + what, 0, x.at(0, 1, 3, what));
        }
    }

    private static void scaled(int cellWide, int cellHigh, int wide, int high, int wantScale, int wantX, int wantY) {
        ImposeSheets x = with("2x1R", 3, cellWide, 4, cellHigh, 5, wide, 6, high, 9, 1);
        x.run(4);
        String text = wide + " by " + high + " in " + cellWide + " by " + cellHigh;
        CHECKS.due("scale of " + text, wantScale, x.at(0, 0, 1, 4));
        CHECKS.due("across of " + text, wantX, x.at(0, 0, 1, 2));
        CHECKS.due("down of " + text, wantY, x.at(0, 0, 1, 3));
        CHECKS.due("scaled pages fit, " + text, 0, x.laid(3));
    }

    private static void scaledPages() {
        scaled(1000, 1000, 1000, 1000, 1000, 1000, 0);
        scaled(1000, 1000, 500, 400, 1000, 1250, 300);
        scaled(1000, 1000, 1001, 500, 999, 1000, 250);
        scaled(1000, 1000, 1500, 3000, 333, 1000 + 250, 0);
        scaled(1, 1, 100000, 100000, 1, 1 - 50, -50);
        scaled(100000, 100000, 100000, 1, 1000, 100000, 49999);
        scaled(10, 1, 5, 3, 333, 10 + 4, 0);
    }

    private static void wrongPlaces() {
        ImposeSheets none = new ImposeSheets();
        CHECKS.dueThrow("at of nothing", IndexOutOfBoundsException.class, () -> none.at(0, 0, 0, 0));
        CHECKS.dueThrow("fold of nothing", IndexOutOfBoundsException.class, () -> none.fold(0));
        CHECKS.dueThrow("creep of nothing", IndexOutOfBoundsException.class, () -> none.creep(1));
        ImposeSheets x = with("2x1R");
        x.run(5);
        int[] wrong = {-1, Integer.MIN_VALUE, Integer.MAX_VALUE};
        for (int v : wrong) {
            CHECKS.dueThrow("sheet " + v, IndexOutOfBoundsException.class, () -> x.at(v, 0, 0, 0));
            CHECKS.dueThrow("side " + v, IndexOutOfBoundsException.class, () -> x.at(0, v, 0, 0));
            CHECKS.dueThrow("place " + v, IndexOutOfBoundsException.class, () -> x.at(0, 0, v, 0));
            CHECKS.dueThrow("what " + v, IndexOutOfBoundsException.class, () -> x.at(0, 0, 0, v));
            CHECKS.dueThrow("fold " + v, IndexOutOfBoundsException.class, () -> x.fold(v));
            CHECKS.dueThrow("laid " + v, IndexOutOfBoundsException.class, () -> x.laid(v));
        }
        CHECKS.dueThrow("sheet 2 of 2", IndexOutOfBoundsException.class, () -> x.at(2, 0, 0, 0));
        CHECKS.dueThrow("side 2", IndexOutOfBoundsException.class, () -> x.at(0, 2, 0, 0));
        CHECKS.dueThrow("place 2 of 2", IndexOutOfBoundsException.class, () -> x.at(0, 0, 2, 0));
        CHECKS.dueThrow("what 5", IndexOutOfBoundsException.class, () -> x.at(0, 0, 0, 5));
        CHECKS.dueThrow("what 5 of a blank place", IndexOutOfBoundsException.class, () -> x.at(1, 1, 1, 5));
        CHECKS.dueThrow("fold 8 of 8", IndexOutOfBoundsException.class, () -> x.fold(8));
        CHECKS.dueThrow("laid 4", IndexOutOfBoundsException.class, () -> x.laid(4));
        CHECKS.due("fold 7 of 8", 0, x.fold(7));
        CHECKS.due("fold 4 of 8", 5, x.fold(4));
    }

    private static void whatIsLaidStays() {
        ImposeSheets x = with("2x1R", 5, 2000);
        x.run(6);
        Checks.scheme(x, "4x4RLTB");
        int[] other = {1, 1, 1, 7, 7, 7, 7, 7, 7, 1};
        for (int what = 0; what < 10; what++) {
            x.setting(what, other[what]);
        }
        CHECKS.due("laid(0)", 2, x.laid(0));
        CHECKS.due("laid(1)", 4, x.laid(1));
        CHECKS.due("laid(2)", 2, x.laid(2));
        CHECKS.due("laid(3)", 1, x.laid(3));
        CHECKS.due("sheet 1", "0,6/5,0", Checks.bothSides(x, 1, 2));
        CHECKS.due("across", 500, x.at(0, 0, 1, 2));
        CHECKS.due("its scale", 1000, x.at(0, 0, 1, 4));
        CHECKS.due("book", "1,2,3,4,5,6,0,0", Checks.folded(x));
        CHECKS.dueThrow("a run that throws", IllegalArgumentException.class, () -> x.run(641));
        CHECKS.due("and changes nothing", 2, x.laid(0));
        CHECKS.due("a run by what there is now", 20, x.run(640));
        CHECKS.due("laid(1) now", 32, x.laid(1));
        CHECKS.due("laid(3) now", 0, x.laid(3));
    }
}
