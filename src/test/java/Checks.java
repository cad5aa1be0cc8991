/** What the tests of answers share: texts that are typed, calls whose exceptions are told as numbers, and the count. */
abstract class Checks {
    /** Stand for the exceptions of set and piece; no call answers them. */
    static final int ILLEGAL_ARGUMENT = -77770001;
    static final int OUT_OF_BOUNDS = -77770002;
    /** An array's or a text's own exception is one of the document's kind, but was thrown by no throw statement. */
    private static final int ANOTHER_EXCEPTION = -77770003;

    private static int passed = 0;
    private static int failed = 0;

    static void due(String what, Object got, Object want) {
        if (got.equals(want)) {
            passed++;
        } else {
            failed++;
            System.out.println(what + ": answered " + got + ", due is " + want);
        }
    }

    /** Tells the count, and ends with exit code 1 if an answer was wrong. */
    static void tell() {
        System.out.println(passed + " passed, " + failed + " failed");
        if (failed != 0) {
            System.exit(1);
        }
    }

    static FormulaSetter typed(String text) {
        FormulaSetter f = new FormulaSetter();
        for (int i = 0; i < text.length(); i++) {
            if (f.type(text.charAt(i), 1) != i + 1) {
                throw new IllegalStateException("the test's own text cannot be typed: " + text);
            }
        }
        return f;
    }

    static int set(FormulaSetter f, int style) {
        try {
            return f.set(style);
        } catch (IllegalArgumentException e) {
            return e.getClass() == IllegalArgumentException.class ? ILLEGAL_ARGUMENT : ANOTHER_EXCEPTION;
        }
    }

    static int piece(FormulaSetter f, int i, int what) {
        try {
            return f.piece(i, what);
        } catch (IndexOutOfBoundsException e) {
            return e.getClass() == IndexOutOfBoundsException.class ? OUT_OF_BOUNDS : ANOTHER_EXCEPTION;
        }
    }

    static int widthOf(String text, int style) {
        FormulaSetter f = typed(text);
        f.set(style);
        return f.width();
    }

    /** One fact of all pieces. */
    static String facts(FormulaSetter f, int what) {
        StringBuilder all = new StringBuilder();
        for (int i = 0; i < f.pieces(); i++) {
            all.append(i == 0 ? "" : " ").append(f.piece(i, what));
        }
        return all.toString();
    }

    static String codes(FormulaSetter f) {
        return facts(f, 1);
    }

    /** All that can be seen of what is set. */
    static String look(FormulaSetter f) {
        StringBuilder all = new StringBuilder();
        for (int i = 0; i < f.pieces(); i++) {
            all.append(i == 0 ? "" : "; ");
            for (int what = 0; what < 6; what++) {
                all.append(what == 0 ? "" : " ").append(f.piece(i, what));
            }
        }
        return all + " | " + f.width() + " " + f.height() + " " + f.depth();
    }

    static void looks(String text, int style, String pieces, int width, int height, int depth) {
        FormulaSetter f = typed(text);
        int count = pieces.isEmpty() ? 0 : pieces.split(";").length;
        due("set " + text + " in " + style, set(f, style), count);
        due("look of " + text + " in " + style, look(f), pieces + " | " + width + " " + height + " " + depth);
    }

    /** The places x of all pieces. */
    static void starts(String text, int style, String want) {
        FormulaSetter f = typed(text);
        f.set(style);
        due("places in " + text + " in " + style, facts(f, 2), want);
    }
}
