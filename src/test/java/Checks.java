/** Counts and prints the answers that are not the ones that are due. */
final class Checks {
    interface Call {
        long answer();
    }

    private int wrong = 0;
    private int made = 0;
    private String words = "";
    private int madeBeforeWords = 0;

    /** What follows, up to the next words, tests these words of the document. */
    void words(String place, String quoted) {
        endWords();
        words = place + " \"" + quoted + "\": ";
        madeBeforeWords = made;
    }

    private void endWords() {
        if (!words.isEmpty() && made == madeBeforeWords) {
            tellWrong("nothing was tested");
        }
        words = "";
    }

    void due(String what, long want, long got) {
        made++;
        if (got != want) {
            tellWrong(what + " answered " + got + ", due is " + want);
        }
    }

    void due(String what, boolean want, boolean got) {
        due(what, want ? 1 : 0, got ? 1 : 0);
    }

    void due(String what, String want, String got) {
        made++;
        if (!got.equals(want)) {
            tellWrong(what + " answered " + got + ", due is " + want);
        }
    }

    void dueThrow(String what, Class<? extends RuntimeException> want, Call call) {
        due(what, "throws." + want.getSimpleName(), outcome(call));
    }

    /** The answer as a text, or the exception's name behind "throws.". */
    static String outcome(Call call) {
        try {
            return Long.toString(call.answer());
        } catch (RuntimeException e) {
            return "throws." + e.getClass().getSimpleName();
        }
    }

    int wrongCount() {
        return wrong;
    }

    void end() {
        endWords();
        System.out.println(wrong == 0 ? made + " answers are as due" : wrong + " of " + made + " answers are not as due");
        if (wrong != 0) {
            System.exit(1);
        }
    }

    private void tellWrong(String text) {
        wrong++;
        if (wrong <= 50) {
            System.out.println(words + text);
        }
    }

    /** An object with a scheme, and with settings told as pairs of what and v. */
    static ImposeSheets with(String scheme, int... settings) {
        ImposeSheets sheets = new ImposeSheets();
        if (scheme(sheets, scheme) <= 0) {
            throw new AssertionError("not taken as a scheme: " + scheme);
        }
        for (int i = 0; i < settings.length; i += 2) {
            sheets.setting(settings[i], settings[i + 1]);
        }
        return sheets;
    }

    /** Types a text, eight bytes a call, and answers what scheme() does. */
    static int scheme(ImposeSheets sheets, String text) {
        typeAll(sheets, text);
        return sheets.scheme();
    }

    static void typeAll(ImposeSheets sheets, String text) {
        for (int from = 0; from < text.length(); from += 8) {
            String part = text.substring(from, Math.min(text.length(), from + 8));
            if (!sheets.type(packed(part), part.length())) {
                throw new AssertionError("the tape does not take " + text);
            }
        }
    }

    static long packed(String part) {
        long v = 0;
        for (int i = part.length() - 1; i >= 0; i--) {
            v = v << 8 | part.charAt(i);
        }
        return v;
    }

    /** The pages of one side of a laid sheet in a scheme's own writing; a blank place is 0. */
    static String side(ImposeSheets sheets, int sheet, int side, int cells) {
        StringBuilder text = new StringBuilder();
        for (int i = 0; i < cells; i++) {
            text.append(i == 0 ? "" : ",").append(sheets.at(sheet, side, i, 0));
            text.append(sheets.at(sheet, side, i, 1) == 1 ? "!" : "");
        }
        return text.toString();
    }

    static String bothSides(ImposeSheets sheets, int sheet, int cells) {
        return side(sheets, sheet, 0, cells) + "/" + side(sheets, sheet, 1, cells);
    }

    static String folded(ImposeSheets sheets) {
        StringBuilder text = new StringBuilder();
        for (int i = 0; i < sheets.laid(0) * sheets.laid(1); i++) {
            text.append(i == 0 ? "" : ",").append(sheets.fold(i));
        }
        return text.toString();
    }
}
