/** Promise 2, and what promise 3 says of the tape. */
public final class TapeTest {
    public static void main(String[] args) {
        Checks checks = new Checks();
        lowestByteFirst(checks);
        wrongLengths(checks);
        twoHundredBytes(checks);
        checks.end();
    }

    private static void lowestByteFirst(Checks checks) {
        ImposeSheets x = new ImposeSheets();
        long text = '2' | 'x' << 8 | '1' << 16 | (long) 'R' << 24;
        checks.due("type 2x1R", true, x.type(text, 4));
        checks.due("2x1R", 2, x.scheme());
        checks.due("type only the n lowest bytes", true, x.type(text | 0x7f7f7f7f00000000L, 4));
        checks.due("2x1R again", 2, x.scheme());
        checks.due("type eight", true, x.type(Checks.packed("04x001RR"), 8));
        checks.due("04x001RR", 4, x.scheme());
        checks.due("type one by one", true, x.type('3', 1) && x.type('x', 1) && x.type('5', 1));
        checks.due("3x5", 15, x.scheme());
        checks.due("type a negative long", true, x.type(-1L, 8));
        checks.due("bytes of 255", -1, x.scheme());
        checks.due("the tape is empty behind a scheme", -1, x.scheme());
        checks.due("type the end of a scheme that failed", true, x.type(Checks.packed("2x"), 2));
        checks.due("2x", -3, x.scheme());
        checks.due("type 1", true, x.type('1', 1));
        checks.due("the tape is empty behind a failed scheme", -2, x.scheme());
    }

    private static void wrongLengths(Checks checks) {
        ImposeSheets x = new ImposeSheets();
        int[] lengths = {0, -1, 9, Integer.MIN_VALUE, Integer.MAX_VALUE};
        for (int n : lengths) {
            checks.due("type of " + n, false, x.type(Checks.packed("2x1R"), n));
        }
        checks.due("nothing was typed", -1, x.scheme());
    }

    private static void twoHundredBytes(Checks checks) {
        ImposeSheets x = new ImposeSheets();
        String told = "2x1R=003,002/001,004";
        Checks.typeAll(x, told);
        for (int size = told.length(); size < 200; size += 4) {
            checks.due("type up to " + (size + 4), true, x.type(Checks.packed("    "), 4));
        }
        checks.due("the 201st byte", false, x.type('2', 1));
        checks.due("eight more", false, x.type('2', 8));
        checks.due("spaces behind a scheme", -1 - told.length(), x.scheme());
        for (int i = 0; i < 24; i++) {
            x.type(0, 8);
        }
        checks.due("196 bytes", true, x.type(0, 4));
        checks.due("five where four fit", false, x.type(0, 5));
        checks.due("four where four fit", true, x.type(0, 4));
    }
}
