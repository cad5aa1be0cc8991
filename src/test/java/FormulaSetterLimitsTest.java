/**
 * The boundary cases of the calls, of the text and of the grammar: for each sentence of the document that names one, the
 * last value that is allowed and the first that is not. The sentence stands above its test.
 */
public final class FormulaSetterLimitsTest extends Checks {
    private static final long EIGHT = 0x6162636465666768L;
    private static final String[] COMMANDS = {
        "sum", "prod", "int", "frac", "sqrt", "hat", "bar", "left", "right", "mat"
    };

    public static void main(String[] args) {
        aNewTextIsEmpty();
        aNewObjectHasAnEmptyFormulaSet();
        typeTakesOneToEight();
        typeTakesTheLowestBytes();
        typeTakesThirtyTwoToHundredTwentySix();
        typeTakesHundredSixtyInAll();
        typeRefusedLeavesAll();
        wipeTellsHowManyThereWere();
        wipeLeavesWhatIsSet();
        setTakesStylesZeroToThree();
        setLeavesTheText();
        setOfAnEmptyText();
        setRefusedOnANewObject();
        setRefusedLeavesAll();
        isFormulaLeavesWhatIsSet();
        pieceTakesThePiecesThatThereAre();
        pieceTakesFactsZeroToFive();
        piecesOfNothingAndOfMany();
        measuresStayUntilTheNextSet();
        setInPlaceOfWhatWasSet();
        fiveHundredTwelveCalls();

        blanksBetweenAllSigns();
        noBlankInACommand();
        noOtherCommands();
        commandsEndBeforeWhatIsNoLetter();
        scriptsInEitherOrderNoneTwice();
        scriptsNeedANucleusAndAnArgument();
        sidesAreSix();
        emptyListsEverywhere();
        charactersThatAreNoNuclei();
        sixtyNuclei();
        eightRows();
        eightCells();
        matricesStandInBraces();
        limitsOfEachMatrixByItself();
        sixDeep();
        emptyPartsLieNoDeeper();
        tell();
    }

    // "The text is empty; ..."
    private static void aNewTextIsEmpty() {
        due("new: wipe", new FormulaSetter().wipe(), 0);
        due("new: the first character is the first", new FormulaSetter().type('a', 1), 1);
        due("new: isFormula", new FormulaSetter().isFormula(), true);
        for (int style = 0; style < 4; style++) {
            due("new: set(" + style + ")", set(new FormulaSetter(), style), 0);
        }
    }

    // "... an empty formula is set: no pieces, all 0."
    private static void aNewObjectHasAnEmptyFormulaSet() {
        FormulaSetter f = new FormulaSetter();
        due("new: look", look(f), " | 0 0 0");
        for (int what = 0; what < 6; what++) {
            due("new: piece(0, " + what + ")", piece(f, 0, what), OUT_OF_BOUNDS);
        }
        f.type('a', 1);
        due("typed, not set: look", look(f), " | 0 0 0");
    }

    // "NONE when n is not 1 .. 8"
    private static void typeTakesOneToEight() {
        for (int n = 1; n <= 8; n++) {
            due("type " + n, new FormulaSetter().type(EIGHT, n), n);
        }
        int[] wrong = {0, 9, -1, -8, 16, 64, 257, Integer.MIN_VALUE, Integer.MIN_VALUE + 1, Integer.MAX_VALUE};
        for (int n : wrong) {
            FormulaSetter f = new FormulaSetter();
            due("type " + n, f.type(EIGHT, n), FormulaSetter.NONE);
            due("type " + n + " appended nothing", f.wipe(), 0);
        }
    }

    // "the lowest n bytes of characters, the highest of them first"
    private static void typeTakesTheLowestBytes() {
        String all = "97 98 99 100 101 102 103 104";
        String[] wanted = all.split(" ");
        for (int n = 1; n <= 8; n++) {
            FormulaSetter f = new FormulaSetter();
            f.type(EIGHT, n);
            set(f, 0);
            due("the lowest " + n, codes(f), String.join(" ", java.util.Arrays.copyOfRange(wanted, 8 - n, 8)));
        }
        long[] above = {0L, 31L, 127L, 128L, 255L};
        for (int n = 1; n < 8; n++) {
            for (long c : above) {
                long characters = EIGHT & (1L << 8 * n) - 1 | c << 8 * n;
                due("byte " + c + " above the lowest " + n, new FormulaSetter().type(characters, n), n);
                due("byte " + c + " among the lowest " + (n + 1), new FormulaSetter().type(characters, n + 1), FormulaSetter.NONE);
            }
        }
        due("all bits above the lowest byte", new FormulaSetter().type(-1L << 8 | 'a', 1), 1);
    }

    // "one is not 32 .. 126"
    private static void typeTakesThirtyTwoToHundredTwentySix() {
        for (int place = 0; place < 8; place++) {
            long others = EIGHT & ~(255L << 8 * place);
            for (int c = 0; c < 256; c++) {
                int want = c >= 32 && c <= 126 ? 8 : FormulaSetter.NONE;
                due("character " + c + " in byte " + place, new FormulaSetter().type(others | (long) c << 8 * place, 8), want);
            }
        }
    }

    // "or it would have more than 160"
    private static void typeTakesHundredSixtyInAll() {
        for (int n = 1; n <= 8; n++) {
            FormulaSetter f = typed("a".repeat(160 - n));
            due(n + " up to 160", f.type(EIGHT, n), 160);
            for (int m = 1; m <= 8; m++) {
                due(m + " behind 160", f.type(EIGHT, m), FormulaSetter.NONE);
            }
            due("160 stand", f.wipe(), 160);
        }
        for (int n = 2; n <= 8; n++) {
            FormulaSetter f = typed("a".repeat(161 - n));
            due(n + " up to 161", f.type(EIGHT, n), FormulaSetter.NONE);
            due(n - 1 + " instead", f.type(EIGHT, n - 1), 160);
        }
    }

    // A call that answers NONE has appended nothing and changed nothing.
    private static void typeRefusedLeavesAll() {
        FormulaSetter f = typed("x^2");
        set(f, 0);
        f.type(0x61621f64L, 4);
        f.type(0x6162637fL, 4);
        f.type(EIGHT, 0);
        f.type(EIGHT, 9);
        due("the text is still a formula", f.isFormula(), true);
        due("nothing was appended", f.type('y', 1), 4);
        due("what is set stays", look(f), "0 120 0 0 10 40; 0 50 40 40 7 28 | 73 89 0");
        FormulaSetter full = typed(" ".repeat(159) + "a");
        full.type('^', 1);
        due("a full text stays as it is", set(full, 0), 1);
    }

    // "The text is empty from now on: how many characters it had."
    private static void wipeTellsHowManyThereWere() {
        int[] lengths = {0, 1, 159, 160};
        for (int length : lengths) {
            FormulaSetter f = typed("a".repeat(length));
            due("wipe of " + length, f.wipe(), length);
            due("wipe again", f.wipe(), 0);
            due("an empty text is a formula", f.isFormula(), true);
            due("type begins anew", f.type('b', 1), 1);
            set(f, 1);
            due("nothing old is left", codes(f), "98");
        }
        FormulaSetter wrong = typed("^");
        wrong.wipe();
        due("a wrong text is gone", wrong.isFormula(), true);
    }

    // "(What is set stays.)"
    private static void wipeLeavesWhatIsSet() {
        FormulaSetter f = typed("\\sqrt a");
        set(f, 0);
        String before = look(f);
        f.wipe();
        due("after wipe", look(f), before);
        f.wipe();
        due("after wipe of an empty text", look(f), before);
    }

    // "IllegalArgumentException when the style is not 0 .. 3"
    private static void setTakesStylesZeroToThree() {
        int[] sizes = {10, 10, 7, 5};
        for (int style = 0; style < 4; style++) {
            FormulaSetter f = typed("a");
            due("set(" + style + ")", set(f, style), 1);
            due("size in " + style, piece(f, 0, 4), sizes[style]);
        }
        int[] wrong = {-1, 4, -4, 5, 256, Integer.MIN_VALUE, Integer.MAX_VALUE};
        for (int style : wrong) {
            due("set(" + style + ") of a formula", set(typed("a"), style), ILLEGAL_ARGUMENT);
            due("set(" + style + ") of an empty text", set(new FormulaSetter(), style), ILLEGAL_ARGUMENT);
            due("set(" + style + ") of no formula", set(typed("^"), style), ILLEGAL_ARGUMENT);
        }
    }

    // "Sets the text (which stays; ...)"
    private static void setLeavesTheText() {
        FormulaSetter f = typed("a+");
        for (int style = 0; style < 4; style++) {
            due("set in " + style, set(f, style), 2);
        }
        due("the text is as long as it was", f.type('b', 1), 3);
        set(f, 0);
        due("a BIN that became an ORD is a BIN again", facts(f, 2), "0 73 156");
        due("and now the text has", f.wipe(), 3);
    }

    // "an empty one is a formula without pieces", "in place of what was set"
    private static void setOfAnEmptyText() {
        for (int style = 0; style < 4; style++) {
            FormulaSetter f = typed("\\frac ab");
            set(f, 0);
            f.wipe();
            due("an empty text is a formula", f.isFormula(), true);
            due("set an empty text in " + style, set(f, style), 0);
            due("nothing is set in " + style, look(f), " | 0 0 0");
            due("no piece in " + style, piece(f, 0, 0), OUT_OF_BOUNDS);
        }
        FormulaSetter blanks = typed(" ".repeat(160));
        due("160 blanks", set(blanks, 0), 0);
        due("160 blanks: look", look(blanks), " | 0 0 0");
    }

    // "or the text is no formula; nothing changes then", before anything was set
    private static void setRefusedOnANewObject() {
        FormulaSetter f = typed("{");
        for (int style = 0; style < 4; style++) {
            due("set { in " + style, set(f, style), ILLEGAL_ARGUMENT);
            due("still nothing is set", look(f), " | 0 0 0");
        }
        f.type('}', 1);
        due("set {}", set(f, 0), 0);
    }

    // "or the text is no formula; nothing changes then"
    private static void setRefusedLeavesAll() {
        String[] wrong = {"^", "{", "}", "\\", "\\frac a", "\\left(", "\\mat{", "#", "^^", "a".repeat(61), "{{{{{{{a}}}}}}}"};
        for (String end : wrong) {
            FormulaSetter f = typed("\\bar x");
            set(f, 2);
            String before = look(f);
            for (int i = 0; i < end.length(); i++) {
                f.type(end.charAt(i), 1);
            }
            for (int style = -1; style <= 4; style++) {
                due("set with " + end + " in " + style, set(f, style), ILLEGAL_ARGUMENT);
                due("still set with " + end, look(f), before);
            }
            due("the text stands with " + end, f.wipe(), 6 + end.length());
        }
    }

    // "Whether the text is a formula (what is set stays)."
    private static void isFormulaLeavesWhatIsSet() {
        String[] texts = {"", "a", "\\mat{a&b\\\\c&d}", "^", "\\left(\\frac{a}{b", "a".repeat(60), "a".repeat(61)};
        for (String text : texts) {
            FormulaSetter f = typed("x^2_3");
            set(f, 0);
            String before = look(f);
            retype(f, text);
            boolean first = f.isFormula();
            due("isFormula twice: " + text, f.isFormula(), first);
            due("isFormula as set tells: " + text, first, set(typed(text), 0) != ILLEGAL_ARGUMENT);
            due("what is set stays: " + text, look(f), before);
            due("the text stays: " + text, f.wipe(), text.length());
        }
    }

    // "IndexOutOfBoundsException when there is no such piece"
    private static void pieceTakesThePiecesThatThereAre() {
        FormulaSetter f = typed("a".repeat(60));
        for (int count = 60; count >= 0; count -= 20) {
            set(f, 0);
            due("pieces", f.pieces(), count);
            due("piece before the first of " + count, piece(f, -1, 0), OUT_OF_BOUNDS);
            due("the first of " + count, piece(f, 0, 1), count == 0 ? OUT_OF_BOUNDS : 97);
            due("the last of " + count, piece(f, count - 1, 1), count == 0 ? OUT_OF_BOUNDS : 97);
            due("piece behind the last of " + count, piece(f, count, 1), OUT_OF_BOUNDS);
            f.wipe();
            for (int i = 0; i < count - 20; i++) {
                f.type('a', 1);
            }
        }
        FormulaSetter one = typed("a");
        set(one, 0);
        int[] far = {59, 60, 119, 120, 121, 357913941, 357913942, Integer.MIN_VALUE, Integer.MAX_VALUE};
        for (int i : far) {
            due("piece(" + i + ", 0)", piece(one, i, 0), OUT_OF_BOUNDS);
        }
    }

    // "or what is not 0 .. 5"
    private static void pieceTakesFactsZeroToFive() {
        FormulaSetter f = typed("ab");
        set(f, 0);
        int[] ofB = {0, 98, 60, 0, 10, 70};
        for (int what = 0; what < 6; what++) {
            due("piece(1, " + what + ")", piece(f, 1, what), ofB[what]);
        }
        int[] wrong = {-1, 6, -6, 7, 12, Integer.MIN_VALUE, Integer.MAX_VALUE};
        for (int what : wrong) {
            due("piece(0, " + what + ")", piece(f, 0, what), OUT_OF_BOUNDS);
            due("piece(1, " + what + ")", piece(f, 1, what), OUT_OF_BOUNDS);
            due("piece(2, " + what + ")", piece(f, 2, what), OUT_OF_BOUNDS);
        }
        due("a refused call changes nothing", look(f), "0 97 0 0 10 60; 0 98 60 0 10 70 | 130 70 20");
    }

    // "How many pieces there are."
    private static void piecesOfNothingAndOfMany() {
        String[] texts = {"", "{}", "\\mat{}", "\\left.\\right.", "x", "\\bar{}", "\\sqrt{}", "\\left(\\right)", "a".repeat(60)};
        int[] counts = {0, 0, 0, 0, 1, 1, 2, 2, 60};
        for (int i = 0; i < texts.length; i++) {
            FormulaSetter f = typed(texts[i]);
            due("set " + texts[i], set(f, 0), counts[i]);
            due("pieces of " + texts[i], f.pieces(), counts[i]);
        }
        String sides = "\\left(\\right)".repeat(12);
        due("as many tall signs as 160 characters hold", set(typed(sides), 0), 24);
        due("as many roots as 160 characters hold", set(typed("\\sqrt1".repeat(26)), 0), 78);
        due("roots and sides with 60 nuclei", set(typed("\\sqrt1".repeat(16) + "1".repeat(28)), 0), 76);
    }

    // "The width of what is set.", "Its height.", "Its depth."
    private static void measuresStayUntilTheNextSet() {
        FormulaSetter f = typed("a");
        due("not set yet", look(f), " | 0 0 0");
        set(f, 0);
        f.wipe();
        f.type('^', 1);
        f.isFormula();
        set(f, 0);
        set(f, 9);
        due("still those of a", look(f), "0 97 0 0 10 60 | 60 60 20");
        f.wipe();
        set(f, 0);
        due("those of an empty text", look(f), " | 0 0 0");
    }

    // "in place of what was set": nothing of it is left, whatever it was
    private static void setInPlaceOfWhatWasSet() {
        String[] texts = {
            "", "a", "a+b", "+", "x^2_3", "\\sum^n_i", "\\frac ab", "\\sqrt{\\hat b}", "\\bar{ab}", "\\left(\\frac ab\\right]", "\\left.\\right.",
            "\\mat{}", "\\mat{a&bb&c\\\\d\\\\\\frac ab}", "\\mat{a}", "\\mat{\\mat{a\\\\b&c}}", "{{{{{{a}}}}}}", "a".repeat(60), "^", "{", "\\mat{a&"
        };
        for (String first : texts) {
            FormulaSetter f = typed(first);
            for (String second : texts) {
                retype(f, first);
                set(f, 0);
                String before = look(f);
                retype(f, second);
                FormulaSetter fresh = typed(second);
                for (int style = 1; style >= 0; style--) {
                    int count = set(fresh, style);
                    due("set " + second + " behind " + first, set(f, style), count);
                    due("look of " + second + " behind " + first, look(f), count == ILLEGAL_ARGUMENT ? before : look(fresh));
                }
            }
        }
    }

    // "An object is used for at most 512 calls after it has been made"
    private static void fiveHundredTwelveCalls() {
        FormulaSetter f = new FormulaSetter();
        int calls = 0;
        String text = "\\sum_{i=1}^n\\frac{a_i}{\\sqrt{b}}+\\mat{a&b\\\\c}";
        while (calls + text.length() + 3 < 512) {
            retype(f, text);
            due("isFormula behind " + calls + " calls", f.isFormula(), true);
            due("set behind " + calls + " calls", set(f, 0), 15);
            calls += text.length() + 3;
        }
        while (calls < 511) {
            due("isFormula behind " + calls + " calls", f.isFormula(), true);
            calls++;
        }
        FormulaSetter fresh = typed(text);
        set(fresh, 0);
        due("the 512th call", piece(f, 14, 2), piece(fresh, 14, 2));
    }

    // "blanks may stand anywhere but inside a command's name"
    private static void blanksBetweenAllSigns() {
        String[][] texts = {
            {"a", "+", "b"}, {"a", "^", "b", "_", "c"}, {"{", "a", "}"}, {"\\sum", "^", "{", "n", "}", "_", "\\int"},
            {"\\frac", "1", "2"}, {"\\sqrt", "{", "}"}, {"\\hat", "\\bar", "2"}, {"\\left", "(", "2", "\\right", "|"},
            {"\\left", ".", "\\right", "."}, {"\\mat", "{", "2", "&", "\\\\", "&", "3", "}"}, {"\\mat", "{", "}", "^", "2"}
        };
        for (String[] parts : texts) {
            String close = String.join("", parts);
            for (int blanks = 1; blanks <= 3; blanks++) {
                String between = " ".repeat(blanks);
                String wide = between + String.join(between, parts) + between;
                for (int style = 0; style < 4; style++) {
                    FormulaSetter f = typed(close);
                    FormulaSetter g = typed(wide);
                    due("set " + wide + " in " + style, set(g, style), set(f, style));
                    due("isFormula " + wide, g.isFormula(), true);
                    due("look of " + wide + " in " + style, look(g), look(f));
                }
            }
        }
    }

    // "... but inside a command's name"
    private static void noBlankInACommand() {
        for (String command : COMMANDS) {
            due("whole: " + command, withCommand(command, command).isFormula(), true);
            for (int i = 0; i < command.length(); i++) {
                String parted = command.substring(0, i) + " " + command.substring(i);
                due("parted: \\" + parted, withCommand(command, parted).isFormula(), false);
            }
        }
    }

    // "A command's name is a \ and all letters that follow; there are no others."
    private static void noOtherCommands() {
        for (String command : COMMANDS) {
            for (int i = 0; i < command.length(); i++) {
                String shorter = command.substring(0, i);
                due("shorter: \\" + shorter, withCommand(command, shorter).isFormula(), false);
            }
            String[] behind = {"a", "z", "A", "Z", "s"};
            for (String letter : behind) {
                due("longer: \\" + command + letter, withCommand(command, command + letter).isFormula(), false);
            }
            String large = command.toUpperCase();
            due("large: \\" + large, withCommand(command, large).isFormula(), false);
            String first = large.charAt(0) + command.substring(1);
            due("large first: \\" + first, withCommand(command, first).isFormula(), false);
            due("without \\: " + command, typed(command).isFormula(), true);
        }
        String[] others = {"\\", "\\a", "\\cdot", "\\over", "\\text", "\\begin", "\\1", "\\+", "\\{", "\\}", "\\^", "\\_", "\\&", "\\,"};
        for (String other : others) {
            due(other, typed(other).isFormula(), false);
            due(other + " in a list", typed("a" + other + "b").isFormula(), false);
        }
    }

    // "all letters that follow": the characters next to the letters end a name
    private static void commandsEndBeforeWhatIsNoLetter() {
        due("\\sum[", set(typed("\\sum["), 1), 2);
        due("\\sum{", set(typed("\\sum{}"), 1), 1);
        due("\\sum0", set(typed("\\sum0"), 1), 2);
        due("\\sum9", set(typed("\\sum9"), 1), 2);
        due("\\sum and a blank and a letter", set(typed("\\sum a"), 1), 2);
        due("\\sum\\sum", set(typed("\\sum\\sum"), 1), 2);
        due("\\sum^_", set(typed("\\sum^1_2"), 1), 3);
        due("\\mat{\\sum\\\\\\sum&\\sum}", set(typed("\\mat{\\sum\\\\\\sum&\\sum}"), 1), 3);
        due("\\sum@", typed("\\sum@").isFormula(), false);
        due("\\sum`", typed("\\sum`").isFormula(), false);
    }

    // "then perhaps ^ ARG and perhaps _ ARG, in either order (none of them twice)"
    private static void scriptsInEitherOrderNoneTwice() {
        String[] nuclei = {"a", "+", "{}", "\\sum", "\\int", "\\frac12", "\\sqrt2", "\\hat2", "\\bar2", "\\left.\\right.", "\\mat{}"};
        for (String nucleus : nuclei) {
            for (String right : new String[] {"", "^1", "_1", "^1_2", "_1^2"}) {
                due(nucleus + right, typed(nucleus + right).isFormula(), true);
            }
            for (String wrong : new String[] {"^1^2", "_1_2", "^1_2^3", "_1^2_3", "^1_2_3", "_1^2^3"}) {
                due(nucleus + wrong, typed(nucleus + wrong).isFormula(), false);
            }
        }
        due("an ARG has no scripts of its own", typed("a^\\frac1^23").isFormula(), false);
        due("the scripts behind an ARG are the item's", typed("a^\\sqrt2_3").isFormula(), true);
        due("twice, one behind a command's ARG", typed("a^\\sqrt2^3").isFormula(), false);
    }

    // An ITEM begins with a NUCLEUS, and an ARG is one.
    private static void scriptsNeedANucleusAndAnArgument() {
        for (String script : new String[] {"^", "_"}) {
            for (String wrong : new String[] {script, script + "a", "a" + script, "{a" + script + "}", "{" + script + "a}"}) {
                due(wrong, typed(wrong).isFormula(), false);
            }
            due("a cell with " + script, typed("\\mat{a" + script + "&b}").isFormula(), false);
            due("a row with " + script, typed("\\mat{a" + script + "\\\\b}").isFormula(), false);
            due("sides with " + script, typed("\\left(a" + script + "\\right)").isFormula(), false);
            due("behind \\left with " + script, typed("\\left(" + script + "a\\right)").isFormula(), false);
            due("of nothing but {} with " + script, typed("{}" + script + "{}").isFormula(), true);
        }
        String[] takers = {"\\frac", "\\frac1", "\\sqrt", "\\hat", "\\bar", "a^", "a_"};
        for (String taker : takers) {
            for (String end : new String[] {"", "}", "&", "^1", "_1", "\\\\", "\\right)"}) {
                due(taker + end, typed(taker + end).isFormula(), false);
                due("{" + taker + end + "}", typed("{" + taker + end + "}").isFormula(), false);
                due("\\mat{" + taker + end + "}", typed("\\mat{" + taker + end + "}").isFormula(), false);
            }
            due(taker + "2", typed(taker + "2").isFormula(), !taker.equals("\\frac"));
        }
    }

    // "a SIDE being one of ( ) [ ] | and . (the point for none)"
    private static void sidesAreSix() {
        for (char c = 33; c <= 126; c++) {
            boolean side = "()[]|.".indexOf(c) >= 0;
            String left = "\\left " + c + " a \\right )";
            String right = "\\left ( a \\right " + c;
            due(left, typed(left).isFormula(), side);
            due(right, typed(right).isFormula(), side);
            if (side) {
                String want = c == '.' ? "97 41" : (int) c + " 97 41";
                FormulaSetter f = typed(left);
                set(f, 0);
                due("codes of " + left, codes(f), want);
                f = typed(right);
                set(f, 0);
                due("codes of " + right, codes(f), c == '.' ? "40 97" : "40 97 " + (int) c);
            }
        }
        String[] wrong = {"\\left", "\\left\\right", "\\left(\\right", "\\left\\right)", "\\left()", "\\right)", "\\left{}(\\right)"};
        for (String text : wrong) {
            due(text, typed(text).isFormula(), false);
        }
    }

    // "x* is any number of x": none, too
    private static void emptyListsEverywhere() {
        looks("", 0, "", 0, 0, 0);
        looks("{}", 0, "", 0, 0, 0);
        looks("{{}}{}", 0, "", 0, 0, 0);
        looks("\\left.\\right.", 0, "", 0, 0, 0);
        looks("\\left(\\right)", 0, "2 40 0 -15 80 40; 2 41 40 -15 80 40", 80, 65, 15);
        looks("\\mat{}", 1, "", 0, 60, 10);
        looks("\\mat{&}", 1, "", 40, 60, 10);
        looks("\\mat{\\\\}", 1, "", 0, 100, 50);
        looks("\\frac{}{}", 1, "1 0 0 23 4 8", 8, 40, 40);
        looks("\\sqrt{}", 2, "2 35 0 -5 14 35; 1 0 35 6 3 0", 35, 9, 5);
        looks("\\hat{}", 2, "0 94 -28 0 7 56", 0, 42, 0);
        looks("\\bar{}", 2, "1 0 0 3 3 0", 0, 9, 0);
        looks("{}^{}_{}", 0, "", 5, 40, 20);
        looks("\\sum^{}_{}", 0, "0 83 0 -24 14 98", 98, 82, 32);
    }

    // "a letter, a digit or one of . ! / | (ORD); + - * (BIN); = < > (REL); ( [ (OPEN); ) ] (CLOSE); , ; (PUNCT)"
    private static void charactersThatAreNoNuclei() {
        String nuclei = ".!/|+-*=<>()[],;";
        for (char c = 32; c <= 126; c++) {
            boolean letter = c >= 'A' && c <= 'Z' || c >= 'a' && c <= 'z';
            boolean nucleus = letter || c >= '0' && c <= '9' || nuclei.indexOf(c) >= 0;
            due("an item: " + c, typed(c + "1").isFormula(), nucleus || c == ' ');
            due("an ARG: " + c, typed("1^" + c).isFormula(), nucleus);
        }
    }

    // "There are at most 60 nuclei"
    private static void sixtyNuclei() {
        String[] ends = {
            "a", "{}", "\\sum", "a^b", "a_b", "a^b_c", "\\frac12", "\\sqrt2", "\\hat2", "\\bar2", "\\left(2\\right)", "\\left.\\right.",
            "\\mat{}", "\\mat{2&3\\\\4}", "{{a}}", "\\frac{1}{2}"
        };
        int[] nuclei = {1, 1, 1, 2, 2, 3, 3, 2, 2, 2, 2, 1, 1, 4, 3, 5};
        for (int i = 0; i < ends.length; i++) {
            String before = "1".repeat(60 - nuclei[i]);
            due("60 with " + ends[i], typed(before + ends[i]).isFormula(), true);
            due("61 with " + ends[i], typed("1" + before + ends[i]).isFormula(), false);
            due("61, " + ends[i] + " first", typed(ends[i] + before + "1").isFormula(), false);
            due("60 in a group with " + ends[i], typed("{" + before.substring(1) + ends[i] + "}").isFormula(), true);
            due("61 in a group with " + ends[i], typed("{" + before + ends[i] + "}").isFormula(), false);
        }
        due("60 nuclei and 100 blanks", set(typed("a".repeat(60) + " ".repeat(100)), 0), 60);
        due("160 nuclei", typed("a".repeat(160)).isFormula(), false);
        FormulaSetter f = typed("a".repeat(61));
        due("61", set(f, 0), ILLEGAL_ARGUMENT);
        f.wipe();
        f.type('a', 1);
        due("61 are no longer counted", set(f, 0), 1);
    }

    // "a matrix has at most 8 rows ..."
    private static void eightRows() {
        for (int rows = 1; rows <= 10; rows++) {
            String empty = "\\mat{" + "\\\\".repeat(rows - 1) + "}";
            String full = "\\mat{" + "a\\\\".repeat(rows - 1) + "a}";
            due(rows + " empty rows", typed(empty).isFormula(), rows <= 8);
            due(rows + " rows", set(typed(full), 0), rows <= 8 ? rows : ILLEGAL_ARGUMENT);
        }
        due("a ninth row in what another brace would close", typed("{\\mat{" + "\\\\".repeat(8) + "}").isFormula(), false);
        due("a row end behind the eighth row", typed("\\mat{" + "a\\\\".repeat(8) + "}").isFormula(), false);
    }

    // "... of at most 8 cells"
    private static void eightCells() {
        for (int cells = 1; cells <= 10; cells++) {
            String row = "&".repeat(cells - 1);
            String full = "a&".repeat(cells - 1) + "a";
            due(cells + " empty cells", typed("\\mat{" + row + "}").isFormula(), cells <= 8);
            due(cells + " cells", set(typed("\\mat{" + full + "}"), 0), cells <= 8 ? cells : ILLEGAL_ARGUMENT);
            due(cells + " cells in the second row", typed("\\mat{a\\\\" + row + "}").isFormula(), cells <= 8);
            due(cells + " cells in the first of two", typed("\\mat{" + row + "\\\\a}").isFormula(), cells <= 8);
            due(cells + " cells in the eighth row", typed("\\mat{" + "\\\\".repeat(7) + row + "}").isFormula(), cells <= 8);
        }
    }

    // "\mat { ROW [\\ ROW]* }, where ROW: CELL [& CELL]*"
    private static void matricesStandInBraces() {
        String[] wrong = {
            "\\mat", "\\mat a", "\\mat}", "\\mat{", "\\mat{a", "\\mat{a&", "\\mat{a\\\\", "\\mat{a\\", "\\mat{a\\}", "\\mat{a\\\\\\}",
            "\\mat{a\\right)}", "\\left(\\mat{a\\right)", "\\mat(a)", "\\mat{}}", "\\mat{{}", "&", "\\\\", "{&}", "{\\\\}", "\\left(&\\right)",
            "\\mat{{&}}", "\\mat{{\\\\}}", "\\mat{\\left.&\\right.}", "{\\mat{" + "&".repeat(8) + "}"
        };
        for (String text : wrong) {
            due(text, typed(text).isFormula(), false);
        }
        String[] right = {"\\mat{}", "\\mat{&}", "\\mat{\\\\}", "\\mat{\\\\&}", "\\mat{{}&{}}", "\\mat{\\mat{&}&}", "\\mat{a}b", "\\mat{\\left.a\\right.&}"};
        for (String text : right) {
            due(text, typed(text).isFormula(), true);
        }
    }

    private static void limitsOfEachMatrixByItself() {
        String rows = "\\mat{" + "\\\\".repeat(7) + "}";
        String cells = "\\mat{" + "&".repeat(7) + "}";
        due("two of 8 rows", typed(rows + rows).isFormula(), true);
        due("two of 8 cells", typed(cells + cells).isFormula(), true);
        due("8 cells in one of 8 cells", typed("\\mat{" + cells + "&".repeat(7) + "}").isFormula(), true);
        due("8 rows in one of 8 rows", typed("\\mat{" + "\\\\".repeat(7) + rows + "}").isFormula(), true);
        due("9 rows in one of one row", typed("\\mat{\\mat{" + "\\\\".repeat(8) + "}}").isFormula(), false);
        String row = "&".repeat(7);
        String all = "\\mat{" + (row + "\\\\").repeat(7) + row + "}";
        due("8 rows of 8 empty cells: pieces", set(typed(all), 0), 0);
        looks(all, 0, "", 280, 340, 290);
        looks(all + all, 0, "", 570, 340, 290);
    }

    // "a nucleus lies at most six deep (in the outermost list 0; an ARG one deeper than what it belongs to; what is in a
    // group, between \left and \right, or in a cell one deeper than the group, the \left, the \mat)"
    private static void sixDeep() {
        String[] before = {"{", "a^", "a_", "\\frac", "\\frac1", "\\sqrt", "\\hat", "\\bar", "\\left(", "\\mat{", "\\mat{1&", "\\mat{1\\\\"};
        String[] behind = {"}", "", "", "1", "", "", "", "", "\\right)", "}", "}", "}"};
        for (int i = 0; i < before.length; i++) {
            String four = before[i] + "{1}" + behind[i];
            String five = "{".repeat(5) + before[i] + "1" + behind[i] + "}".repeat(5);
            String six = "{".repeat(6) + before[i] + "1" + behind[i] + "}".repeat(6);
            due("six deep: " + five, typed(five).isFormula(), true);
            due("seven deep: " + six, typed(six).isFormula(), false);
            String innerSix = "{".repeat(4) + four + "}".repeat(4);
            String innerSeven = "{".repeat(5) + four + "}".repeat(5);
            due("six deep in an ARG: " + innerSix, typed(innerSix).isFormula(), true);
            due("seven deep in an ARG: " + innerSeven, typed(innerSeven).isFormula(), false);
        }
        for (int i = 0; i < before.length; i++) {
            boolean script = before[i].startsWith("a");
            String open = script ? "{" + before[i] : before[i];
            String close = script ? "}" : behind[i];
            int levels = script ? 2 : 1;
            String last = open.repeat(6 / levels) + "1" + close.repeat(6 / levels);
            due("six of its own kind: " + last, typed(last).isFormula(), true);
            due("one more: {" + last + "}", typed("{" + last + "}").isFormula(), false);
        }
        due("six deep is no matter of how many", typed("{{{{{{a}}}}}}{{{{{{b}}}}}}").isFormula(), true);
        due("a deep text is left behind", set(typed("{{{{{{a}}}}}}b"), 0), 2);
    }

    // What is empty holds no nucleus that could lie too deep.
    private static void emptyPartsLieNoDeeper() {
        String[] empty = {"{}", "\\left(\\right)", "\\mat{}", "\\mat{&\\\\&}", "\\left.  \\right.", "{ }"};
        for (String text : empty) {
            due("six deep: " + text, typed("{".repeat(6) + text + "}".repeat(6)).isFormula(), true);
            due("seven deep: " + text, typed("{".repeat(7) + text + "}".repeat(7)).isFormula(), false);
            due("an ARG six deep: " + text, typed("{".repeat(5) + "a^" + text + "}".repeat(5)).isFormula(), true);
            due("an ARG seven deep: " + text, typed("{".repeat(6) + "a^" + text + "}".repeat(6)).isFormula(), false);
        }
    }

    private static void retype(FormulaSetter f, String text) {
        f.wipe();
        for (int i = 0; i < text.length(); i++) {
            f.type(text.charAt(i), 1);
        }
    }

    /** A text that is a formula if the name is that of the command. */
    private static FormulaSetter withCommand(String command, String name) {
        switch (command) {
            case "right":
                return typed("\\left(\\" + name + ")");
            case "left":
                return typed("\\" + name + "(\\right)");
            case "mat":
                return typed("\\" + name + "{}");
            case "frac":
                return typed("\\" + name + "{}{}");
            default:
                return typed("\\" + name + "{}");
        }
    }
}
