/** The edges that the document names of sheets, schemes and the tape: its terms, and promises 2 and 3. */
public final class SchemeEdgesTest {
    private static final Checks CHECKS = new Checks();
    private static final String DIGITS = "0123456789";

    public static void main(String[] args) {
        sizesOfSheets();
        sixFolds();
        noOtherBytes();
        threeDigits();
        halvesOfEvenNumbers();
        onePlaceIsLeft();
        withoutFolds();
        lowestFirst();
        wrongNumbersOfBytes();
        twoHundredBytes();
        theTapeIsEmptyThen();
        howManyCells();
        theFirstByte();
        moreMustCome();
        fourthDigitsAndSeventhFolds();
        numbersOutOfBounds();
        foldsNotRight();
        theSchemeStays();
        CHECKS.end();
    }

    private static void due(String text, int want) {
        CHECKS.due("scheme " + text, want, Checks.scheme(new ImposeSheets(), text));
    }

    private static void sizesOfSheets() {
        CHECKS.words("terms", "1 .. 8 columns, 1 .. 8 rows, 16 cells at most");
        for (int columns = 0; columns <= 17; columns++) {
            for (int rows = 0; rows <= 17; rows++) {
                boolean columnsFit = columns >= 1 && columns <= 8;
                boolean rowsFit = rows >= 1 && rows <= 8 && columns * rows <= 16;
                due(columns + "x" + rows, !columnsFit ? -1 : !rowsFit ? -3 : columns * rows);
            }
        }
    }

    private static void sixFolds() {
        CHECKS.words("terms", "letters R L T B (6 at most)");
        due("1x1", 1);
        due("2x1R", 2);
        due("2x1L", 2);
        due("1x2T", 2);
        due("1x2B", 2);
        due("4x4RLTB", 16);
        // Six may be there, though 16 cells are never right with more than four.
        due("4x4RLTBRL", -4);
        due("4x4RLTBRL=", -4);
        due("4x4RLTBRLT", -10);
        due("4x4RLTBRLTB", -10);
    }

    /** The answers, told as pairs of the last byte and the answer; otherwise all others'. */
    private static void everyByte(String begin, int otherwise, Object... answers) {
        for (int last = 0; last < 256; last++) {
            int want = otherwise;
            for (int i = 0; i < answers.length; i += 2) {
                if (((String) answers[i]).indexOf(last) >= 0) {
                    want = (Integer) answers[i + 1];
                }
            }
            due(begin + (char) last, want);
        }
    }

    private static void noOtherBytes() {
        CHECKS.words("terms", "No other bytes.");
        everyByte("", -1, "12345678", -2);
        everyByte("2", -2, "x", -3, DIGITS, -1);
        everyByte("2x", -3, "1", 2, "2", 4, "3", 6, "4", 8, "5", 10, "6", 12, "7", 14, "8", 16);
        everyByte("2x1", -4, "RL", 2, "=", -5, DIGITS, -3);
        everyByte("2x1R", -5, "=", -6, "RLTB", -4);
        everyByte("2x1R=", -6, "1234", -7);
        everyByte("2x1R=3", -7, ",!", -8, DIGITS, -6);
        everyByte("2x1R=3!", -8, ",", -9);
        everyByte("2x1R=3,", -8, "1234", -9);
        everyByte("2x1R=3,2", -9, "/!", -10, DIGITS, -8);
        everyByte("2x1R=3,2!", -10, "/", -11);
        everyByte("2x1R=3,2/", -10, "1234", -11);
        everyByte("2x1R=3,2/1", -11, ",!", -12, DIGITS, -10);
        everyByte("2x1R=3,2/1,", -12, "1234", 2);
        everyByte("2x1R=3,2/1,4", -13, "!", 2, DIGITS, -12);
        everyByte("2x1R=3,2/1,4!", -14);
    }

    private static void threeDigits() {
        CHECKS.words("terms", "Digits are three at most.");
        due("008x002RRRB", 16);
        due("0008x2", -4);
        due("8x0002", -6);
        due("2x1R=003,002/001,004", 2);
        due("2x1R=0003,2/1,4", -9);
        due("2x1R=3,2/1,0004", -15);
        due("1x1=001!/002!", 1);
    }

    private static void halvesOfEvenNumbers() {
        CHECKS.words("terms", "if each halves an even number");
        due("1x1R", -4);
        due("1x1L", -4);
        due("1x1T", -4);
        due("1x1B", -4);
        due("3x1R", -4);
        due("3x1L", -4);
        due("1x3T", -4);
        due("1x3B", -4);
        due("6x1RR", -4);
        due("1x6TB", -4);
        due("2x1T", -4);
        due("1x2R", -4);
        due("2x1RR", -4);
        due("2x1RT", -4);
        due("8x2RRRBB", -4);
        due("8x2RRRB", 16);
        due("2x8TRBT", 16);
    }

    private static void onePlaceIsLeft() {
        CHECKS.words("terms", "and one place is left");
        due("4x1R", -4);
        due("1x4B", -4);
        due("2x2R", -4);
        due("2x2T", -4);
        due("2x3R", -4);
        due("6x2RB", -4);
        due("8x2RRR", -4);
        due("8x2RRB", -4);
        due("4x4RLT", -4);
    }

    private static void withoutFolds() {
        CHECKS.words("terms", "without folds, any sheet is right");
        due("1x1", 1);
        due("3x5", 15);
        due("5x3", 15);
        due("7x1", 7);
        due("1x7", 7);
        due("2x2", 4);
        due("1x1=1/2", 1);
    }

    private static void lowestFirst() {
        CHECKS.words("promise 2", "The n lowest bytes of v come behind the tape, the lowest first.");
        String text = "2x1R=3,2";
        for (int n = 1; n <= 8; n++) {
            ImposeSheets x = new ImposeSheets();
            long rubbish = n == 8 ? 0 : -1L << 8 * n;
            CHECKS.due("type " + n, true, x.type(Checks.packed(text.substring(0, n)) | rubbish, n));
            int[] want = {-2, -3, 2, 2, -6, -7, -8, -9};
            CHECKS.due("scheme of " + n, want[n - 1], x.scheme());
        }
        ImposeSheets x = new ImposeSheets();
        CHECKS.due("type all bits", true, x.type(-1L, 8));
        CHECKS.due("a byte of 255 is the first", -1, x.scheme());
        CHECKS.due("type behind", true, x.type('2', 1) && x.type(0x8000000000003178L, 2));
        CHECKS.due("2x1", 2, x.scheme());
    }

    private static void wrongNumbersOfBytes() {
        CHECKS.words("promise 2", "False, changing nothing, when n is not 1 .. 8");
        int[] wrong = {0, 9, -1, 10, 16, 255, 256, -8, Integer.MIN_VALUE, Integer.MAX_VALUE};
        for (int n : wrong) {
            ImposeSheets x = new ImposeSheets();
            x.type('2', 1);
            CHECKS.due("type " + n, false, x.type(Checks.packed("xxxxxxxx"), n));
            x.type(Checks.packed("x1"), 2);
            CHECKS.due("the tape has 2x1 behind type " + n, 2, x.scheme());
        }
    }

    /** A tape that begins with a scheme, so that a byte behind it is told. */
    private static ImposeSheets tapeOf(int size) {
        ImposeSheets x = new ImposeSheets();
        x.type(Checks.packed("2x1R"), 4);
        for (int left = size - 4; left > 0; left -= Math.min(8, left)) {
            if (!x.type(0, Math.min(8, left))) {
                throw new AssertionError("the tape does not take " + size);
            }
        }
        return x;
    }

    private static void twoHundredBytes() {
        CHECKS.words("promise 2", "or it would have more than 200");
        for (int n = 1; n <= 8; n++) {
            CHECKS.due("up to 200 by " + n, true, tapeOf(200 - n).type(0, n));
            ImposeSheets x = tapeOf(201 - n);
            CHECKS.due("up to 201 by " + n, false, x.type(0, n));
            CHECKS.due("what fits still", n > 1, n > 1 && x.type(0, n - 1));
            CHECKS.due("one more", false, x.type(0, 1));
            CHECKS.due("the tape is as it was", -5, x.scheme());
            CHECKS.due("an empty one takes as many", true, x.type(0, n));
        }
        ImposeSheets x = tapeOf(200);
        CHECKS.due("the most bytes", false, x.type(0, Integer.MAX_VALUE));
    }

    private static void theTapeIsEmptyThen() {
        CHECKS.words("promise 3", "it is empty then, whatever the answer is");
        String[] texts = {"2x1R", "2x1R=3,2/1,4", "2x1Z", "9x1", "2x", "", "2x1T"};
        for (String text : texts) {
            ImposeSheets x = new ImposeSheets();
            Checks.scheme(x, text);
            CHECKS.due("nothing behind " + text, -1, x.scheme());
            Checks.scheme(x, text);
            CHECKS.due("1x1 behind " + text, 1, Checks.scheme(x, "1x1"));
        }
        ImposeSheets full = tapeOf(200);
        CHECKS.due("a full tape", -5, full.scheme());
        for (int i = 0; i < 25; i++) {
            CHECKS.due("eight bytes of 200 once more", true, full.type(0, 8));
        }
        CHECKS.due("and no more", false, full.type(0, 1));
    }

    private static void howManyCells() {
        CHECKS.words("promise 3", "how many cells it has");
        due("1x1", 1);
        due("4x4", 16);
        due("8x2RRRB", 16);
        due("3x3", 9);
        String longest = "004x004RLTB=" + sixteen("031!") + "/" + sixteen("032!");
        CHECKS.due("the longest scheme's bytes", 171, longest.length());
        due(longest, 16);
        due(longest + "!", -172);
    }

    private static String sixteen(String page) {
        return page + ("," + page).repeat(15);
    }

    private static void theFirstByte() {
        CHECKS.words("promise 3", "-1 minus the place of the first byte that cannot be there");
        due("Z", -1);
        due("ZZ", -1);
        due("2Zx", -2);
        due("2xZ9", -3);
        due("2x1Z9", -4);
        due("2x1R=3,2/1,4Z", -13);
        due("2x1R=3,Z/Z,4", -8);
        due("9x9TT", -1);
        due("9Z", -1);
        due("2x9Z", -3);
        due("2x1TZ", -4);
        due("2x1R=5Z", -6);
    }

    private static void moreMustCome() {
        CHECKS.words("promise 3", "the size when more must come");
        String text = "2x1R=3!,2/1,4!";
        for (int size = 0; size < text.length() - 1; size++) {
            boolean ends = size == 3 || size == 4;
            due(text.substring(0, size), ends ? 2 : -1 - size);
        }
        due("002", -4);
        due("002x", -5);
        due("1x1=1", -6);
        due("1x1=1/", -7);
    }

    private static void fourthDigitsAndSeventhFolds() {
        CHECKS.words("promise 3", "a fourth digit, a seventh fold");
        due("9999", -4);
        due("0000x1", -4);
        due("2x9999", -6);
        due("2x1R=9999", -9);
        due("2x1R=3,2/9999", -13);
        due("99999999", -4);
        due("2x1TTTTTTT", -10);
        due("2x1RRRRRRR", -10);
        due("02x001TTTTTTTT", -13);
    }

    private static void numbersOutOfBounds() {
        CHECKS.words("promise 3", "a number that is not within its bounds (columns, rows, pages 1 .. 2 cells;");
        due("0", -1);
        due("9", -1);
        due("0x1", -1);
        due("000x1", -1);
        due("9x1", -1);
        due("10x1", -1);
        due("999x1", -1);
        due("1x0", -3);
        due("1x9", -3);
        due("001x000R", -5);
        due("001x009", -5);
        due("1x1=0", -5);
        due("1x1=3", -5);
        due("1x1=0/1", -5);
        due("1x1=3/1", -5);
        due("1x1=2/3", -7);
        due("1x1=2/000!", -7);
        due("1x1=2/2", 1);
        due("4x4=" + sixteen("32") + "/" + sixteen("1"), 16);
        due("4x4=33", -5);
        due("4x4=" + sixteen("32") + "/33", -53);
        CHECKS.words("promise 3", "of more than 16 cells: the rows");
        due("8x3", -3);
        due("3x8", -3);
        due("006x003", -5);
        due("4x5RRTT", -3);
        due("8x8", -3);
        due("8x2", 16);
    }

    private static void foldsNotRight() {
        CHECKS.words("promise 3", "or folds that are not RIGHT: where the number, or the first fold, begins");
        due("2x1T", -4);
        due("002x001T", -8);
        due("4x4RRR", -4);
        due("4x4RLTBB=", -4);
        due("2x2R=1,2,3,4/5,6,7,8", -4);
        due("2x1RTZ", -4);
    }

    private static void theSchemeStays() {
        CHECKS.words("promise 3", "and the scheme stays");
        String[] wrong = {"", "Z", "1x2Z", "1x2B=", "1x2B=3,2!/4,1!Z", "1x2B=3,2!/4,5", "1x2TT", "0x1", "1x1R"};
        for (String text : wrong) {
            ImposeSheets none = new ImposeSheets();
            CHECKS.due("not taken: " + text, true, Checks.scheme(none, text) < 0);
            CHECKS.dueThrow("none is there behind " + text, IllegalStateException.class, () -> none.run(1));
            ImposeSheets x = Checks.with("2x1L=2,3/4,1");
            CHECKS.due("not taken: " + text, true, Checks.scheme(x, text) < 0);
            CHECKS.due("the first one is right", 0, x.broken());
            CHECKS.due("and can be laid", 1, x.run(4));
            CHECKS.due("its sides behind " + text, "2,3/4,1", Checks.bothSides(x, 0, 2));
        }
    }
}
