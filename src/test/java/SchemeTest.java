/** Promise 3: what is taken as a scheme, and where the first wrong byte is. */
public final class SchemeTest {
    private static final Checks CHECKS = new Checks();

    public static void main(String[] args) {
        right();
        wrongSizes();
        wrongFolds();
        wrongPages();
        theSchemeStays();
        CHECKS.end();
    }

    private static void due(String text, int want) {
        CHECKS.due("scheme " + text, want, Checks.scheme(new ImposeSheets(), text));
    }

    private static void right() {
        due("1x1", 1);
        due("8x2", 16);
        due("2x8", 16);
        due("5x3", 15);
        due("2x1R", 2);
        due("2x1L", 2);
        due("1x2T", 2);
        due("1x2B", 2);
        due("4x4RLTB", 16);
        due("8x2BRRL", 16);
        due("002x001R", 2);
        due("2x1R=3,2/1,4", 2);
        due("2x1R=003!,02/1!,4", 2);
        due("2x1R=1,1/1,1", 2);
        due("1x1=2!/1!", 1);
        due("1x1=1/2", 1);
    }

    private static void wrongSizes() {
        due("", -1);
        due("x", -1);
        due("R", -1);
        due(" 2x1", -1);
        due("0x1", -1);
        due("000x1", -1);
        due("9x1", -1);
        due("9x", -1);
        due("9R", -1);
        due("999x1", -1);
        due("1000x1", -4);
        due("0002x1", -4);
        due("2", -2);
        due("2X1", -2);
        due("2x", -3);
        due("2xx", -3);
        due("2xR", -3);
        due("2x0", -3);
        due("2x9", -3);
        due("8x3", -3);
        due("4x5", -3);
        due("6x3", -3);
        due("2x0001", -6);
        due("02x009RZ", -4);
        due("2x1 ", -4);
        due("2x1r", -4);
        due("2x1\u0000", -4);
        due("2x1,", -4);
    }

    private static void wrongFolds() {
        due("2x1T", -4);
        due("2x1RR", -4);
        due("2x2R", -4);
        due("3x1R", -4);
        due("1x1R", -4);
        due("6x1RR", -4);
        due("2x1TZ", -4);
        due("2x1T=", -4);
        due("2x1RZ", -5);
        due("2x1R1", -5);
        due("2x1RRRRRR", -4);
        due("2x1RRRRRRR", -10);
        due("2x1RRRRRRRZ", -10);
    }

    private static void wrongPages() {
        due("2x1R=", -6);
        due("2x1R=3", -7);
        due("2x1R=3,", -8);
        due("2x1R=3,2", -9);
        due("2x1R=3,2/", -10);
        due("2x1R=3,2/1", -11);
        due("2x1R=3,2/1,", -12);
        due("2x1R=3,2/1,4,", -13);
        due("2x1R=3,2/1,4/", -13);
        due("2x1R=3,2/1,4!!", -14);
        due("2x1R=3!!,2/1,4", -8);
        due("2x1R=!3,2/1,4", -6);
        due("2x1R=3/2/1,4", -7);
        due("2x1R=3,2,1,4", -9);
        due("2x1R=0,2/1,4", -6);
        due("2x1R=5,2/1,4", -6);
        due("2x1R=3,2/1,5!", -12);
        due("2x1R=3,2/999,4", -10);
        due("2x1R=3,2/0001,4", -13);
        due("2x1R=3,,2/1,4", -8);
        due("2x1R==3,2/1,4", -6);
        due("2x1R=3,2/1,4R", -13);
        due("1x1=3/1", -5);
        due("1x1=1/2,", -8);
    }

    private static void theSchemeStays() {
        ImposeSheets x = new ImposeSheets();
        CHECKS.due("a first scheme", 2, Checks.scheme(x, "2x1R=3,2/1,4"));
        CHECKS.due("a second one that fails late", -14, Checks.scheme(x, "2x1L=1,2!/3,4x"));
        CHECKS.due("the first one is right still", 0, x.broken());
        CHECKS.due("and is laid", 1, x.run(4));
        CHECKS.due("as it was told", "3,2/1,4", Checks.bothSides(x, 0, 2));
        CHECKS.due("a scheme that is found comes behind a told one", 2, Checks.scheme(x, "1x2B"));
        CHECKS.due("it has no pages to be wrong", 0, x.broken());
    }
}
