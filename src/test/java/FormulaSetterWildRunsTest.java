import java.util.Random;

/**
 * Long runs of calls with right and wrong arguments, always the same ones: only the exceptions of the
 * document come, and a refused call changes nothing.
 */
public final class FormulaSetterWildRunsTest {
    private static final String[] BITS = {
        "a", "b", "1", "+", "-", "=", "(", ")", ",", "{", "}", "{", "}", "^", "_", "&", "\\\\", " ", "\\", "#", "{}", "^2", "_i",
        "\\sum", "\\prod ", "\\int", "\\frac", "\\frac ab", "\\sqrt", "\\hat ", "\\bar x", "\\left(", "\\right)", "\\left.", "\\right]",
        "\\left", "\\right", "\\mat{", "\\mat", "&&", "\\mat{a&b\\\\c}"
    };
    private static final int RUNS = 4000;
    private static final int CALLS = 512;

    private final Random random;
    private final FormulaSetter f = new FormulaSetter();
    private int length = 0;

    private FormulaSetterWildRunsTest(long seed) {
        random = new Random(seed);
    }

    public static void main(String[] args) {
        int failed = 0;
        for (int run = 0; run < RUNS; run++) {
            try {
                new FormulaSetterWildRunsTest(run).run();
            } catch (RuntimeException e) {
                failed++;
                System.out.println("run " + run + ": " + e);
            }
        }
        System.out.println((RUNS - failed) + " passed, " + failed + " failed");
        if (failed != 0) {
            System.exit(1);
        }
    }

    private void run() {
        int calls = 0;
        while (calls < CALLS) {
            int choice = random.nextInt(10);
            if (choice < 6) {
                calls += typeBit();
            } else if (choice < 8) {
                calls += trySet();
            } else if (choice == 8 && random.nextInt(4) == 0) {
                need(f.wipe() == length, "wipe answers another length");
                length = 0;
                calls++;
            } else {
                calls += tryPiece();
            }
        }
    }

    private int typeBit() {
        String bit = BITS[random.nextInt(BITS.length)];
        for (int i = 0; i < bit.length(); i++) {
            int got = f.type(bit.charAt(i) | (random.nextLong() << 8), 1);
            need(got == (length < 160 ? length + 1 : FormulaSetter.NONE), "type answers " + got);
            length = Math.min(160, length + 1);
        }
        return bit.length();
    }

    private int trySet() {
        long before = trace();
        boolean formula = f.isFormula();
        need(trace() == before, "isFormula changed what is set");
        int style = random.nextInt(6) - 1;
        boolean set = true;
        int count = -1;
        try {
            count = f.set(style);
        } catch (IllegalArgumentException e) {
            need(e.getClass() == IllegalArgumentException.class, "set threw " + e);
            set = false;
        }
        need(set == (formula && style >= 0 && style <= 3), "set and isFormula do not agree");
        need(set ? count == f.pieces() : trace() == before, "set left what it should not");
        need(f.pieces() >= 0 && f.pieces() <= 120 && f.width() >= 0 && f.height() >= 0 && f.depth() >= 0, "no such measures");
        return 2;
    }

    private int tryPiece() {
        int i = random.nextInt(130) - 5;
        int what = random.nextInt(8) - 1;
        boolean answered = true;
        try {
            f.piece(i, what);
        } catch (IndexOutOfBoundsException e) {
            need(e.getClass() == IndexOutOfBoundsException.class, "piece threw " + e);
            answered = false;
        }
        need(answered == (i >= 0 && i < f.pieces() && what >= 0 && what <= 5), "piece(" + i + ", " + what + ")");
        return 1;
    }

    /** A number for all that can be seen of what is set. Its calls change nothing, so none is counted. */
    private long trace() {
        long all = f.pieces() * 31L + f.width() * 37L + f.height() * 41L + f.depth();
        for (int i = 0; i < f.pieces(); i++) {
            for (int what = 0; what < 6; what++) {
                all = all * 1000003L + f.piece(i, what);
            }
        }
        return all;
    }

    private static void need(boolean holds, String otherwise) {
        if (!holds) {
            throw new IllegalStateException(otherwise);
        }
    }
}
