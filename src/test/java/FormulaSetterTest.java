/** The promises of the document, one method or more for each. */
public final class FormulaSetterTest extends Checks {
    public static void main(String[] args) {
        aNewObject();
        typeAppends();
        typeRefuses();
        wipeEmptiesTheText();
        setAnswersAndReplaces();
        setRefusesAndChangesNothing();
        isFormulaTells();
        formulas();
        noFormulas();
        charactersThatAreNuclei();
        limitsOfTheGrammar();
        piecesAndPiece();
        widthHeightDepth();
        signs();
        binsThatBecomeOrds();
        spaces();
        operators();
        scripts();
        scriptsOfInt();
        limits();
        fractions();
        roots();
        hats();
        bars();
        sides();
        matrices();
        orderOfPieces();
        objectsAreApart();
        tell();
    }

    // Promise 1

    private static void aNewObject() {
        FormulaSetter f = new FormulaSetter();
        due("new: pieces", f.pieces(), 0);
        due("new: width", f.width(), 0);
        due("new: height", f.height(), 0);
        due("new: depth", f.depth(), 0);
        due("new: piece(0, 0)", piece(f, 0, 0), OUT_OF_BOUNDS);
        due("new: isFormula", f.isFormula(), true);
        due("new: set(3)", set(f, 3), 0);
        due("new: wipe", f.wipe(), 0);
        due("NONE", FormulaSetter.NONE, -1000000);
    }

    // Promise 2

    private static void typeAppends() {
        FormulaSetter f = new FormulaSetter();
        due("type ab", f.type('a' << 8 | 'b', 2), 2);
        due("type c of many bytes", f.type(0x0102030405060763L, 1), 3);
        due("type eight", f.type(0x7e20646566676869L, 8), 11);
        f.wipe();
        f.type(0x2b61L, 2);
        f.type(0x2b62L, 2);
        due("set what was typed in two calls", set(f, 0), 4);
        due("the highest byte first", codes(f), "43 97 43 98");
        f.wipe();
        f.type(0x6162636465666768L, 8);
        set(f, 0);
        due("eight bytes in their order", codes(f), "97 98 99 100 101 102 103 104");
    }

    private static void typeRefuses() {
        FormulaSetter f = new FormulaSetter();
        int[] wrongCounts = {0, -1, 9, Integer.MIN_VALUE, Integer.MAX_VALUE};
        for (int n : wrongCounts) {
            due("type with n = " + n, f.type(0x6161616161616161L, n), FormulaSetter.NONE);
        }
        int[] wrongCharacters = {0, 31, 127, 128, 255};
        for (int c : wrongCharacters) {
            due("type character " + c, f.type(c, 1), FormulaSetter.NONE);
            due("type a and character " + c, f.type('a' << 8 | c, 2), FormulaSetter.NONE);
            due("type character and a " + c, f.type((long) c << 8 | 'a', 2), FormulaSetter.NONE);
            due("type eight with one wrong", f.type((long) c << 56 | 0x61616161616161L, 8), FormulaSetter.NONE);
        }
        due("nothing was appended", f.wipe(), 0);
        due("the lowest character", f.type(32, 1), 1);
        due("the highest character", f.type(126, 1), 2);
        f.wipe();
        for (int i = 1; i <= 19; i++) {
            due("type to " + 8 * i, f.type(0x6161616161616161L, 8), 8 * i);
        }
        due("type to 159", f.type(0x61616161616161L, 7), 159);
        due("two are too many for 160", f.type(0x6161L, 2), FormulaSetter.NONE);
        due("the 160th", f.type('a', 1), 160);
        due("the 161st", f.type('a', 1), FormulaSetter.NONE);
        due("160 stand", f.wipe(), 160);
    }

    // Promise 3

    private static void wipeEmptiesTheText() {
        FormulaSetter f = typed("x^2");
        set(f, 0);
        due("wipe tells how many there were", f.wipe(), 3);
        due("wipe again", f.wipe(), 0);
        due("what is set stays: pieces", f.pieces(), 2);
        due("what is set stays: piece", piece(f, 1, 3), 40);
        due("what is set stays: width", f.width(), 73);
        due("what is set stays: height", f.height(), 89);
        due("type begins anew", f.type('a', 1), 1);
        due("set what is typed now", set(f, 0), 1);
    }

    // Promise 4

    private static void setAnswersAndReplaces() {
        FormulaSetter f = typed("\\frac ab");
        due("set in 0", set(f, 0), 3);
        due("set in 3, for the text stays", set(f, 3), 3);
        due("set in 3: width", f.width(), 39);
        due("the text stays", f.type('c', 1), 9);
        due("set with one more", set(f, 1), 4);
        f.wipe();
        due("set an empty text", set(f, 2), 0);
        due("empty: pieces", f.pieces(), 0);
        due("empty: width", f.width(), 0);
        due("empty: height", f.height(), 0);
        due("empty: depth", f.depth(), 0);
        f.type(0x2020L, 2);
        due("set blanks", set(f, 0), 0);
    }

    private static void setRefusesAndChangesNothing() {
        FormulaSetter f = typed("x_2");
        set(f, 0);
        int[] wrongStyles = {-1, 4, Integer.MIN_VALUE, Integer.MAX_VALUE};
        for (int style : wrongStyles) {
            due("set in " + style, set(f, style), ILLEGAL_ARGUMENT);
            due("still set after " + style, look(f), "0 120 0 0 10 40; 0 50 40 -20 7 28 | 73 50 20");
        }
        f.type('^', 1);
        for (int style = 0; style < 4; style++) {
            due("set no formula in " + style, set(f, style), ILLEGAL_ARGUMENT);
        }
        due("still set after no formula", look(f), "0 120 0 0 10 40; 0 50 40 -20 7 28 | 73 50 20");
        due("the text still stands", f.type('y', 1), 5);
        due("set once it is a formula", set(f, 0), 3);
    }

    // Promise 5 and the grammar

    private static void isFormulaTells() {
        FormulaSetter f = typed("\\hat x");
        set(f, 0);
        String before = look(f);
        f.type('^', 1);
        due("isFormula of an open end", f.isFormula(), false);
        due("what is set stays", look(f), before);
        f.type('{', 1);
        f.type('}', 1);
        due("isFormula of a closed end", f.isFormula(), true);
        due("what is set still stays", look(f), before);
        due("the text stays", f.wipe(), 9);
    }

    private static void formulas() {
        String[] all = {
            "", "   ", "a", ".!/|", "+-*=<>()[],;", ")(", "{}", "{ }", "{{}{}}", "a^b", "a _ b", "a^b_c", "a_b^c",
            "a^{b^c}", "a^bc^d", "a_+", "{a}^{b}_{c}", "\\sum", "\\prod", "\\int", "\\sum\\prod\\int",
            "\\sum^\\sum_\\int", "\\frac12", "\\frac ab", "\\frac{}{}", "\\frac\\frac1234", "\\frac\\sqrt a b",
            "\\sqrt2", "\\hat\\bar x", "\\sqrt x^2", "x^\\frac12_3", "\\left(\\right)", "\\left.\\right.",
            "\\left ) a \\right (", "\\left[a\\right|", "\\left|\\left]b\\right[\\right.^2", "\\left()\\right)",
            "\\mat{}", "\\mat {a}", "\\mat{a&b\\\\c}", "\\mat{&&\\\\\\\\&}", "\\mat{\\mat{a&b}&c}",
            "\\mat{\\sum\\\\\\sum}", "\\mat{{a}&\\left(b\\right)}", "a^\\mat{b}", "\\left(\\mat{a}\\right)_c",
            "  \\frac  a  {  b  }  ", "\\sum1", "\\left.a\\right.b"
        };
        for (String text : all) {
            due("isFormula " + text, typed(text).isFormula(), true);
        }
    }

    private static void noFormulas() {
        String[] all = {
            "^", "_", "^a", "_a", "a^", "a_", "a^^b", "a^b^c", "a_b_c", "a^b_c^d", "a_b^c_d", "a^_b", "{^a}", "{",
            "}", "{a", "a}", "{{}", "}{", "a^{", "a^}", "\\", "\\ ", "\\ sum", "\\su m", "\\Sum", "\\sumx", "\\su",
            "\\summ", "\\foo", "\\1", "\\{", "\\right", "\\right)", "a\\right)", "\\frac", "\\frac a",
            "\\frac a^2 b", "\\frac{a}", "{\\frac a}b", "\\sqrt", "\\sqrt^2", "\\hat", "\\bar}", "{\\bar}",
            "\\left", "\\left(", "\\left(a", "\\left a\\right)", "\\left(a\\right", "\\left(a\\right a",
            "\\left(a\\rightx)", "\\lefta(\\right)", "\\left<a\\right>", "\\left{a\\right}", "\\left({a\\right)}",
            "\\left(^\\right)", "\\left(a&b\\right)", "\\left(a\\\\b\\right)", "{\\left(a}\\right)", "\\mat",
            "\\mat a", "\\mat{", "\\mat{a", "\\mat{a&", "\\mat{a\\\\", "\\mat{a\\ \\b}", "\\mat{a\\}",
            "\\mat{{a&b}}", "\\mat{{a\\\\b}}", "\\mat{a\\right)}", "\\mat{^a}", "\\mat{a^", "\\mat{#",
            "\\mat{&&&&&&&&", "\\mat{a&^b}", "&", "a&b", "\\\\", "a\\\\b", "{a&b}", "{\\\\}", "a:b", "#", "\"",
            "$", "%", "'", "?", "@", "`", "~"
        };
        for (String text : all) {
            due("isFormula " + text, typed(text).isFormula(), false);
        }
    }

    private static void charactersThatAreNuclei() {
        String nuclei = "abcdefghijklmnopqrstuvwxyzABCDEFGHIJKLMNOPQRSTUVWXYZ0123456789.!/|+-*=<>()[],;";
        for (char c = 33; c <= 126; c++) {
            due("isFormula " + c, typed(String.valueOf(c)).isFormula(), nuclei.indexOf(c) >= 0);
        }
    }

    private static void limitsOfTheGrammar() {
        due("60 nuclei", typed("a".repeat(60)).isFormula(), true);
        due("61 nuclei", typed("a".repeat(61)).isFormula(), false);
        due("60 nuclei and 100 blanks", set(typed(" ".repeat(100) + "a".repeat(60)), 0), 60);
        due("60 nuclei with scripts", typed("a^b_c".repeat(20)).isFormula(), true);
        due("61 nuclei with scripts", typed("a^b_c".repeat(20) + "{}").isFormula(), false);
        due("60 nuclei, groups among them", typed("{a}".repeat(30)).isFormula(), true);
        due("61 nuclei, groups among them", typed("{a}".repeat(30) + "+").isFormula(), false);
        due("60 nuclei in a matrix", typed("\\mat{" + "a".repeat(59) + "}").isFormula(), true);
        due("61 nuclei in a matrix", typed("\\mat{" + "a".repeat(60) + "}").isFormula(), false);
        due("60 nuclei between sides", set(typed("\\left(" + "a".repeat(59) + "\\right)"), 0), 61);
        due("61 nuclei between sides", typed("\\left(" + "a".repeat(60) + "\\right)").isFormula(), false);
        due("six deep in groups", typed("{{{{{{a}}}}}}").isFormula(), true);
        due("an empty group six deep", typed("{{{{{{{}}}}}}}").isFormula(), true);
        due("seven deep in groups", typed("{{{{{{{a}}}}}}}").isFormula(), false);
        due("six deep in arguments", typed("\\sqrt\\hat\\bar\\sqrt\\hat\\bar a").isFormula(), true);
        due("seven deep in arguments", typed("\\sqrt\\hat\\bar\\sqrt\\hat\\bar\\sqrt a").isFormula(), false);
        due("a script six deep", typed("{{{{{a^b}}}}}").isFormula(), true);
        due("a script seven deep", typed("{{{{{{a^b}}}}}}").isFormula(), false);
        due("scripts in groups", typed("a^{b^{c^d}}").isFormula(), true);
        due("scripts in groups, seven deep", typed("a_{b^{c_{d^e}}}").isFormula(), false);
        due("a fraction's parts six deep", typed("{{{{{\\frac ab}}}}}").isFormula(), true);
        due("a fraction's parts seven deep", typed("{{{{{{\\frac ab}}}}}}").isFormula(), false);
        due("in a fraction's first part six deep", typed("{{{{\\frac{a}b}}}}").isFormula(), true);
        due("in a fraction's first part seven deep", typed("{{{{{\\frac{a}b}}}}}").isFormula(), false);
        due("in a fraction's second part seven deep", typed("{{{{{\\frac a{b}}}}}}").isFormula(), false);
        due("160 characters, the last one a \\", typed(" ".repeat(159) + "\\").isFormula(), false);
        due("160 characters, the last ones \\\\", typed("\\mat{" + " ".repeat(153) + "\\\\").isFormula(), false);
        due("160 characters, the last one }", typed("\\mat{" + " ".repeat(154) + "}").isFormula(), true);
        due("160 characters, the last ones a command", typed(" ".repeat(156) + "\\sum").isFormula(), true);
        due("between sides six deep", typed("{{{{{\\left(a\\right)}}}}}").isFormula(), true);
        due("between sides seven deep", typed("{{{{{{\\left(a\\right)}}}}}}").isFormula(), false);
        due("a cell six deep", typed("{{{{{\\mat{a}}}}}}").isFormula(), true);
        due("a cell seven deep", typed("{{{{{{\\mat{a}}}}}}}").isFormula(), false);
        due("an empty cell in a matrix six deep", typed("{{{{{{\\mat{&}}}}}}}").isFormula(), true);
        due("8 cells", typed("\\mat{&&&&&&&}").isFormula(), true);
        due("9 cells", typed("\\mat{&&&&&&&&}").isFormula(), false);
        due("9 cells in the second row", typed("\\mat{a\\\\&&&&&&&&}").isFormula(), false);
        due("8 rows", typed("\\mat{" + "\\\\".repeat(7) + "}").isFormula(), true);
        due("9 rows", typed("\\mat{" + "\\\\".repeat(8) + "}").isFormula(), false);
        String row = "&".repeat(7);
        String full = "\\mat{" + (row + "\\\\").repeat(7) + row + "}";
        due("8 rows of 8 cells", typed(full).isFormula(), true);
        due("two such matrices", typed(full + full).isFormula(), true);
    }

    // Promises 6 and 7

    private static void piecesAndPiece() {
        FormulaSetter f = typed("\\sqrt a");
        due("pieces before set", f.pieces(), 0);
        due("set", set(f, 0), 3);
        due("pieces after set", f.pieces(), 3);
        int[][] facts = {{2, 35, 0, -22, 100, 50}, {1, 0, 50, 74, 4, 60}, {0, 97, 50, 0, 10, 60}};
        for (int i = 0; i < 3; i++) {
            for (int what = 0; what < 6; what++) {
                due("piece(" + i + ", " + what + ")", piece(f, i, what), facts[i][what]);
            }
        }
        int[] wrong = {-1, 6, Integer.MIN_VALUE, Integer.MAX_VALUE};
        for (int what : wrong) {
            due("piece(0, " + what + ")", piece(f, 0, what), OUT_OF_BOUNDS);
        }
        int[] none = {-1, 3, 120, 715827883, Integer.MIN_VALUE, Integer.MAX_VALUE};
        for (int i : none) {
            due("piece(" + i + ", 0)", piece(f, i, 0), OUT_OF_BOUNDS);
        }
        f.wipe();
        f.type('b', 1);
        set(f, 0);
        due("fewer pieces", f.pieces(), 1);
        due("a piece that is gone", piece(f, 1, 0), OUT_OF_BOUNDS);
    }

    // Promises 8, 9 and 10

    private static void widthHeightDepth() {
        FormulaSetter f = typed("x");
        set(f, 0);
        due("x: width", f.width(), 40);
        due("x: height", f.height(), 50);
        due("x: depth", f.depth(), 0);
        f.type('a', 1);
        due("typing alone changes nothing", f.width(), 40);
        set(f, 0);
        due("xa: width", f.width(), 100);
        due("xa: height", f.height(), 60);
        due("xa: depth", f.depth(), 20);
        set(f, 2);
        due("xa small: width", f.width(), 70);
        due("xa small: height", f.height(), 42);
        due("xa small: depth", f.depth(), 14);
    }

    // The terms: signs, lists and their spaces

    private static void signs() {
        looks("a", 0, "0 97 0 0 10 60", 60, 60, 20);
        looks("a", 1, "0 97 0 0 10 60", 60, 60, 20);
        looks("a", 2, "0 97 0 0 7 42", 42, 42, 14);
        looks("a", 3, "0 97 0 0 5 30", 30, 30, 10);
        looks("x|", 0, "0 120 0 0 10 40; 0 124 40 0 10 80", 120, 60, 0);
        looks(" 1 ! / . ", 1, "0 49 0 0 10 80; 0 33 80 0 10 70; 0 47 150 0 10 60; 0 46 210 0 10 50", 260, 70, 20);
        for (int c = 33; c <= 126; c++) {
            FormulaSetter f = typed(String.valueOf((char) c));
            if (f.isFormula()) {
                set(f, 1);
                String want = "0 " + c + " 0 0 10 " + 10 * (4 + c % 5) + " | " + 10 * (4 + c % 5) + " " + 10 * (5 + c % 3);
                due("sign " + c, look(f), want + " " + (c % 4 == 1 ? 20 : 0));
            }
        }
    }

    private static void binsThatBecomeOrds() {
        // a is 60 wide, + 70, = 50, ( 40, ) 50, a comma 80; a BIN between two ORDs has 13 on either side.
        starts("a+a", 0, "0 73 156");
        starts("+a", 0, "0 70");
        starts("a+", 0, "0 60");
        starts("a++a", 0, "0 73 156 226");
        starts("a+++a", 0, "0 73 156 239 322");
        starts("a=+a", 0, "0 76 142 212");
        starts("a+=a", 0, "0 60 146 212");
        starts("(+a", 0, "0 40 110");
        starts("a+)", 0, "0 60 130");
        starts(")+a", 0, "0 63 146");
        starts("a+(", 0, "0 73 156");
        starts("a,+a", 0, "0 60 150 220");
        starts("a+,a", 0, "0 60 130 220");
        starts("\\prod+a", 1, "0 50 120");
        starts("a+\\prod", 1, "0 73 156");
        starts("{+}+a", 0, "0 83 166");
        starts("a+{}", 0, "0 73");
        starts("a+^a", 0, "0 60 130");
        starts("{a+}a", 0, "0 60 130");
    }

    private static void spaces() {
        String[] items = {"a", "\\int ", "+", "=", "(", ")", ",", "\\left.b\\right."};
        String[] table = {
            "01230004", "11030004", "22002002", "33003003", "00000000", "01230004", "44044444", "41234044"
        };
        int[] large = {0, 10, 13, 16, 10};
        int[] small = {0, 7, 0, 0, 0};
        for (int left = 0; left < 8; left++) {
            for (int right = 0; right < 8; right++) {
                int rule = table[left].charAt(right) - '0';
                if (left != 2 && right != 2) {
                    String pair = items[left] + items[right];
                    due("space in " + pair + ", 0", spaceIn(pair, items[left], items[right], 0), large[rule]);
                    due("space in " + pair + ", 1", spaceIn(pair, items[left], items[right], 1), large[rule]);
                    due("space in " + pair + ", 2", spaceIn(pair, items[left], items[right], 2), small[rule]);
                    due("space in " + pair + ", 3", spaceIn(pair, items[left], items[right], 3), small[rule] * 5 / 7);
                }
            }
        }
        int[] beforeBin = {0, 5, 7};
        int[] behindBin = {0, 1, 4, 7};
        for (int left : beforeBin) {
            for (int right : behindBin) {
                String all = items[left] + "+" + items[right];
                int largeSum = widthOf(items[left], 0) + 13 + 70 + 13 + widthOf(items[right], 0);
                int smallSum = widthOf(items[left], 2) + 49 + widthOf(items[right], 2);
                due("spaces in " + all + ", 0", widthOf(all, 0), largeSum);
                due("spaces in " + all + ", 2", widthOf(all, 2), smallSum);
            }
        }
    }

    // The terms: nuclei and scripts

    private static void operators() {
        looks("\\sum", 0, "0 83 0 -24 14 98", 98, 74, 24);
        looks("\\sum", 1, "0 83 0 -10 10 70", 70, 60, 10);
        looks("\\sum", 2, "0 83 0 -7 7 49", 49, 42, 7);
        looks("\\sum", 3, "0 83 0 -5 5 35", 35, 30, 5);
        looks("\\prod", 0, "0 80 0 -24 14 56", 56, 74, 24);
        looks("\\prod", 1, "0 80 0 -10 10 40", 40, 60, 10);
        looks("\\prod", 2, "0 80 0 -7 7 28", 28, 42, 7);
        looks("\\prod", 3, "0 80 0 -5 5 20", 20, 30, 5);
        looks("\\int", 0, "0 73 0 -3 14 98", 98, 81, 31);
        looks("\\int", 1, "0 73 0 5 10 70", 70, 65, 15);
        looks("\\int", 2, "0 73 0 3 7 49", 49, 45, 11);
        looks("\\int", 3, "0 73 0 2 5 35", 35, 32, 8);
    }

    private static void scripts() {
        looks("x^2", 0, "0 120 0 0 10 40; 0 50 40 40 7 28", 73, 89, 0);
        looks("x_2", 0, "0 120 0 0 10 40; 0 50 40 -20 7 28", 73, 50, 20);
        looks("x^2_3", 1, "0 120 0 0 10 40; 0 50 40 40 7 28; 0 51 40 -20 7 35", 80, 89, 20);
        looks("x_3^2", 1, "0 120 0 0 10 40; 0 50 40 40 7 28; 0 51 40 -20 7 35", 80, 89, 20);
        looks("x^2_3", 2, "0 120 0 0 7 28; 0 50 28 28 5 20; 0 51 28 -14 5 25", 56, 63, 14);
        looks("x^2_3", 3, "0 120 0 0 5 20; 0 50 20 20 5 20; 0 51 20 -13 5 25", 47, 55, 13);
        looks("{}^{}", 0, "", 5, 40, 0);
        looks("{}_{}", 0, "", 5, 0, 20);
        looks("{}^a_b", 0, "0 97 0 40 7 42; 0 98 0 -39 7 49", 54, 82, 39);
        looks("x^{\\frac ab}_{\\frac cd}", 0,
                "0 120 0 0 10 40; 0 97 45 72 5 30; 1 0 40 56 3 41; 0 98 43 12 5 35; "
                + "0 99 43 -29 5 40; 1 0 40 -41 3 46; 0 100 53 -85 5 20", 91, 102, 85);
        looks("\\frac ab^2_i", 0,
                "0 97 9 70 10 60; 1 0 0 23 4 78; 0 98 4 -70 10 70; 0 50 78 110 7 28; "
                + "0 105 78 -75 7 28", 111, 159, 89);
        looks("a^1_\\bar b", 0, "0 97 0 0 10 60; 0 49 60 40 7 56; 0 98 60 -48 7 49; 1 0 60 4 3 49", 121, 82, 48);
        looks("x^{y^z}", 0, "0 120 0 0 10 40; 0 121 40 40 7 35; 0 122 75 68 5 30", 113, 103, 0);
        looks("x_{y^z}", 0, "0 120 0 0 10 40; 0 121 40 -23 7 35; 0 122 75 5 5 30", 113, 50, 37);
        looks("\\sqrt{x^2}", 0, "2 35 0 -3 100 50; 1 0 50 93 4 73; 0 120 50 0 10 40; 0 50 90 30 7 28", 123, 97, 3);
        looks("{x^2}^3", 0, "0 120 0 0 10 40; 0 50 40 40 7 28; 0 51 73 69 7 35", 113, 104, 0);
        looks("\\left(x\\right)^2", 0,
                "2 40 0 -15 80 40; 0 120 40 0 10 40; 2 41 80 -15 80 40; 0 50 120 45 7 28", 153, 94, 15);
        looks("a^{x^b}", 0, "0 97 0 0 10 60; 0 120 60 40 7 28; 0 98 88 68 5 35", 131, 103, 20);
        looks("a_{x^b}", 0, "0 97 0 0 10 60; 0 120 60 -25 7 28; 0 98 88 -4 5 35", 131, 60, 25);
        looks("\\sqrt{{}^a}", 0, "2 35 0 -10 100 50; 1 0 50 86 4 47; 0 97 50 30 7 42", 97, 90, 10);
        looks("\\sqrt{a^{x^b}}", 0,
                "2 35 0 -26 140 50; 1 0 50 110 4 131; 0 97 50 0 10 60; 0 120 110 40 7 28; "
                + "0 98 138 61 5 35", 181, 114, 26);
        looks("x^\\frac1i", 0, "0 120 0 0 10 40; 0 49 43 80 5 40; 1 0 40 64 3 46; 0 105 53 20 5 20", 91, 110, 0);
        looks("{}_{\\left(a\\right)}", 0, "2 40 0 -38 70 28; 0 97 28 -20 7 42; 2 41 70 -38 70 28", 103, 0, 38);
    }

    private static void scriptsOfInt() {
        looks("\\int^1", 0, "0 73 0 -3 14 98; 0 49 98 61 7 56", 159, 103, 31);
        looks("\\int_0", 0, "0 73 0 -3 14 98; 0 48 88 -36 7 49", 142, 81, 36);
        looks("\\int_0^1", 1, "0 73 0 5 10 70; 0 49 70 45 7 56; 0 48 60 -20 7 49", 131, 87, 20);
        looks("\\int_{}^1", 2, "0 73 0 3 7 49; 0 49 49 31 5 40", 92, 61, 14);
        looks("\\int_0^1", 3, "0 73 0 2 5 35; 0 49 35 22 5 40; 0 48 30 -21 5 35", 77, 52, 21);
    }

    private static void limits() {
        looks("\\sum", 0, "0 83 0 -24 14 98", 98, 74, 24);
        looks("\\sum^n", 0, "0 83 0 -24 14 98; 0 110 35 82 7 28", 98, 131, 24);
        looks("\\prod_i", 0, "0 80 0 -24 14 56; 0 105 14 -67 7 28", 56, 74, 81);
        looks("\\sum_{abc}^n", 0,
                "0 83 24 -24 14 98; 0 110 59 82 7 28; 0 97 0 -81 7 42; 0 98 42 -81 7 49; "
                + "0 99 91 -81 7 56", 147, 131, 95);
        looks("\\prod^{ab}_i", 0,
                "0 80 17 -24 14 56; 0 97 0 96 7 42; 0 98 42 96 7 49; 0 105 31 -67 7 28", 91, 145, 81);
        looks("\\sum_i^n", 1, "0 83 0 -10 10 70; 0 110 70 40 7 28; 0 105 70 -20 7 28", 103, 89, 34);
        looks("\\sum_i^n", 2, "0 83 0 -7 7 49; 0 110 49 28 5 20; 0 105 49 -14 5 20", 72, 63, 24);
        looks("{\\sum}_i^n", 0, "0 83 0 -24 14 98; 0 110 98 54 7 28; 0 105 98 -29 7 28", 131, 103, 43);
        looks("\\hat\\sum^n", 0, "0 83 0 -24 14 98; 0 94 9 24 10 80; 0 110 98 64 7 28", 131, 113, 24);
        looks("\\sqrt{\\sum_i^n}", 0,
                "2 35 0 -91 240 50; 1 0 50 145 4 98; 0 83 50 -24 14 98; 0 110 85 82 7 28; "
                + "0 105 85 -67 7 28", 148, 149, 91);
    }

    private static void fractions() {
        looks("\\frac ab", 0, "0 97 9 70 10 60; 1 0 0 23 4 78; 0 98 4 -70 10 70", 78, 130, 70);
        looks("\\frac ab", 1, "0 97 7 45 7 42; 1 0 0 23 4 57; 0 98 4 -40 7 49", 57, 87, 40);
        looks("\\frac ab", 2, "0 97 5 32 5 30; 1 0 0 16 3 41; 0 98 3 -28 5 35", 41, 62, 28);
        looks("\\frac ab", 3, "0 97 4 25 5 30; 1 0 0 11 2 39; 0 98 2 -26 5 35", 39, 55, 26);
        looks("\\frac{}{}", 0, "1 0 0 23 4 8", 8, 70, 70);
        looks("\\frac{\\frac ab}{\\frac cd}", 0,
                "0 97 14 124 7 42; 1 0 7 102 4 57; 0 98 11 39 7 49; 1 0 0 23 4 72; "
                + "0 99 8 -30 7 56; 1 0 4 -47 4 64; 0 100 22 -110 7 28", 72, 166, 110);
        looks("\\frac{x^2}{x^2}", 0,
                "0 120 4 70 10 40; 0 50 44 110 7 28; 1 0 0 23 4 81; 0 120 4 -70 10 40; "
                + "0 50 44 -40 7 28", 81, 159, 70);
        looks("\\sqrt{\\frac{x^2}c}", 1,
                "2 35 0 -52 160 50; 1 0 50 104 4 64; 0 120 56 40 7 28; 0 50 84 61 5 20; "
                + "1 0 50 23 4 64; 0 99 54 -40 7 56", 114, 108, 52);
        looks("\\frac\\sum{\\int_a}", 0,
                "0 83 22 60 10 70; 1 0 0 23 4 115; 0 73 4 -65 10 70; 0 97 64 -90 7 42", 115, 130, 104);
    }

    private static void roots() {
        looks("\\sqrt a", 0, "2 35 0 -22 100 50; 1 0 50 74 4 60; 0 97 50 0 10 60", 110, 78, 22);
        looks("\\sqrt a", 1, "2 35 0 -28 100 50; 1 0 50 68 4 60; 0 97 50 0 10 60", 110, 72, 28);
        looks("\\sqrt a", 2, "2 35 0 -19 70 35; 1 0 35 48 3 42; 0 97 35 0 7 42", 77, 51, 19);
        looks("\\sqrt a", 3, "2 35 0 -14 50 25; 1 0 25 34 2 30; 0 97 25 0 5 30", 55, 36, 14);
        looks("\\sqrt{}", 0, "2 35 0 -2 20 50; 1 0 50 14 4 0", 50, 18, 2);
        looks("\\sqrt{}", 1, "2 35 0 -8 20 50; 1 0 50 8 4 0", 50, 12, 8);
        looks("\\sqrt{\\left.\\frac{1}{1}\\right.}", 0,
                "2 35 0 -92 240 50; 1 0 50 144 4 88; 0 49 54 70 10 80; 1 0 50 23 4 88; "
                + "0 49 54 -70 10 80", 138, 148, 92);
        looks("\\sqrt b", 1, "2 35 0 -18 100 50; 1 0 50 78 4 70; 0 98 50 0 10 70", 120, 82, 18);
        looks("\\sqrt i", 3, "2 35 0 -19 50 25; 1 0 25 29 2 20; 0 105 25 0 5 20", 45, 31, 19);
        looks("\\sqrt{\\bar x}", 3, "2 35 0 -3 40 25; 1 0 25 35 2 20; 0 120 25 0 5 20; 1 0 25 27 2 20", 45, 37, 3);
    }

    private static void hats() {
        looks("\\hat x", 0, "0 120 0 0 10 40; 0 94 -20 0 10 80", 40, 60, 0);
        looks("\\hat i", 1, "0 105 0 0 10 40; 0 94 -20 0 10 80", 40, 60, 20);
        looks("\\hat y", 3, "0 121 0 0 5 25; 0 94 -7 5 5 40", 25, 35, 10);
        looks("\\hat{ab}", 2, "0 97 0 0 7 42; 0 98 42 0 7 49; 0 94 17 14 7 56", 91, 56, 14);
        looks("\\hat{}", 0, "0 94 -40 0 10 80", 0, 60, 0);
        looks("\\hat{\\frac ab}", 0,
                "0 97 9 70 10 60; 1 0 0 23 4 78; 0 98 4 -70 10 70; 0 94 -1 80 10 80", 78, 140, 70);
        looks("\\hat{x^2}", 0, "0 120 0 0 10 40; 0 50 40 30 7 28; 0 94 -3 29 10 80", 73, 89, 0);
    }

    private static void bars() {
        looks("\\bar x", 0, "0 120 0 0 10 40; 1 0 0 54 4 40", 40, 62, 0);
        looks("\\bar a", 2, "0 97 0 0 7 42; 1 0 0 45 3 42", 42, 51, 14);
        looks("\\bar a", 3, "0 97 0 0 5 30; 1 0 0 32 2 30", 30, 36, 10);
        looks("\\bar{}", 1, "1 0 0 4 4 0", 0, 12, 0);
        looks("\\bar{x^2}", 1, "0 120 0 0 10 40; 0 50 40 30 7 28; 1 0 0 83 4 73", 73, 91, 0);
        looks("\\bar\\hat x", 0, "0 120 0 0 10 40; 0 94 -20 0 10 80; 1 0 0 64 4 40", 40, 72, 0);
    }

    private static void sides() {
        looks("\\left(a\\right)", 0, "2 40 0 -25 100 40; 0 97 40 0 10 60; 2 41 100 -25 100 40", 140, 75, 25);
        looks("\\left.a\\right.", 0, "0 97 0 0 10 60", 60, 60, 20);
        looks("\\left.a\\right]", 1, "0 97 0 0 10 60; 2 93 60 -25 100 40", 100, 75, 25);
        looks("\\left[\\right|", 2, "2 91 0 -11 56 28; 2 124 28 -11 56 28", 56, 45, 11);
        looks("\\left | \\frac xy \\right )", 3,
                "2 124 0 -33 90 20; 0 120 24 20 5 20; 1 0 20 11 2 29; 0 121 22 -21 5 25; "
                + "2 41 49 -33 90 20", 69, 57, 33);
        looks("\\left(x^2\\right.", 0, "2 40 0 -45 140 40; 0 120 40 0 10 40; 0 50 80 40 7 28", 113, 95, 45);
        looks("\\sqrt{\\left(x^2\\right)}", 0,
                "2 35 0 -37 140 50; 1 0 50 99 4 153; 2 40 50 -35 120 40; 0 120 90 0 10 40; "
                + "0 50 130 30 7 28; 2 41 163 -35 120 40", 203, 103, 37);
        looks("\\left(\\sqrt{\\frac ab}\\right)", 1,
                "2 40 0 -55 160 40; 2 35 40 -41 140 50; 1 0 90 95 4 57; 0 97 97 45 7 42; "
                + "1 0 90 23 4 57; 0 98 94 -40 7 49; 2 41 147 -55 160 40", 187, 105, 55);
    }

    private static void matrices() {
        looks("\\mat{}", 0, "", 0, 60, 10);
        looks("\\mat{}", 3, "", 0, 29, 6);
        looks("\\mat{a}", 0, "0 97 0 5 10 60", 60, 65, 15);
        looks("\\mat{a&b\\\\c}", 0, "0 97 10 40 10 60; 0 98 120 40 10 70; 0 99 0 -40 10 80", 190, 110, 60);
        looks("\\mat{a&b\\\\c}", 2, "0 97 7 27 7 42; 0 98 84 27 7 49; 0 99 0 -29 7 56", 133, 76, 43);
        looks("\\mat{&\\\\}", 1, "", 40, 100, 50);
        looks("\\mat{a&}", 0, "0 97 0 5 10 60", 100, 65, 15);
        looks("\\mat{\\sum_i&x^2}", 0,
                "0 83 0 -13 10 70; 0 105 70 -23 7 28; 0 120 143 -3 10 40; 0 50 183 37 7 28", 216, 86, 37);
        looks("\\sqrt{\\mat{x^2}}", 0,
                "2 35 0 -28 120 50; 1 0 50 88 4 73; 0 120 50 -5 10 40; 0 50 90 25 7 28", 123, 92, 28);
        looks("\\mat{\\mat{a&b}\\\\\\mat{c\\\\d}&e}", 0,
                "0 97 0 85 10 60; 0 98 100 85 10 70; 0 99 45 5 10 80; 0 100 65 -85 10 40; "
                + "0 101 210 -50 10 50", 260, 155, 105);
        looks("\\mat{\\frac ab\\\\\\frac ab}", 2,
                "0 97 5 80 5 30; 1 0 0 64 3 41; 0 98 3 20 5 35; 0 97 5 -17 5 30; 1 0 0 -33 3 41; "
                + "0 98 3 -77 5 35", 41, 110, 77);
        StringBuilder steps = new StringBuilder("\\mat{x");
        for (int i = 1; i < 8; i++) {
            steps.append("\\\\").append("&".repeat(i)).append("x");
        }
        FormulaSetter f = typed(steps + "}");
        due("8 rows of up to 8 cells", set(f, 0), 8);
        due("columns of 40 and 40 between", facts(f, 2), "0 80 160 240 320 400 480 560");
        due("rows of 70 and 10 between", facts(f, 3), "290 210 130 50 -30 -110 -190 -270");
        due("8 columns", f.width(), 600);
        due("8 rows: height", f.height(), 340);
        due("8 rows: depth", f.depth(), 290);
    }

    private static void orderOfPieces() {
        looks("a_b^c", 0, "0 97 0 0 10 60; 0 99 60 40 7 56; 0 98 60 -25 7 49", 121, 75, 25);
        looks("\\frac{a}{b}c", 1, "0 97 7 45 7 42; 1 0 0 23 4 57; 0 98 4 -40 7 49; 0 99 67 0 10 80", 147, 87, 40);
        looks("\\left(a_\\sqrt b^\\hat c\\right]", 0,
                "2 40 0 -55 160 40; 0 97 40 0 10 60; 0 99 100 40 7 56; 0 94 100 40 7 56; "
                + "2 35 100 -46 70 35; 1 0 135 21 3 49; 0 98 135 -34 7 49; 2 93 189 -55 160 40", 229, 105, 55);
    }

    private static void objectsAreApart() {
        FormulaSetter one = typed("x^2");
        FormulaSetter other = typed("\\sqrt a");
        set(one, 0);
        set(other, 0);
        due("one", look(one), "0 120 0 0 10 40; 0 50 40 40 7 28 | 73 89 0");
        due("other", look(other), "2 35 0 -22 100 50; 1 0 50 74 4 60; 0 97 50 0 10 60 | 110 78 22");
    }

    private static int spaceIn(String both, String left, String right, int style) {
        return widthOf(both, style) - widthOf(left, style) - widthOf(right, style);
    }
}
