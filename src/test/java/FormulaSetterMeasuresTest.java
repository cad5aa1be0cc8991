/**
 * The boundary cases of the measures: roundings, "at least", "the greatest", "the greater", "less than", and what there
 * is none of. The document's sentence stands above its test; each term wins, is as great as the next one, and loses by as
 * little as texts can be found for. The numbers in the comments were worked out by hand from the document.
 *
 * <p>Signs at size 1, as w h d: a 6 6 2, b 7 7 0, c 8 5 0, d 4 6 0, e 5 7 2, i 4 5 2, x 4 5 0. The hat is 8 6 0.
 */
public final class FormulaSetterMeasuresTest extends Checks {
    private static final int X = 2;
    private static final int Y = 3;
    private static final int SIZE = 4;
    private static final int WIDTH = 5;

    public static void main(String[] args) {
        divisionsThatLeaveNothingHalf();
        divisionsOfNegativeNumbers();
        theMiddleOfOddWidths();
        scriptStyles();
        partStyles();
        styleOfCells();
        cramped();
        depthsOfSigns();
        binFirstAndLast();
        binBehindEachClass();
        binBeforeEachClass();
        binBehindWhatHasBecome();
        spacesOfStylesZeroAndOneOnly();
        greatestOfAList();
        operatorsInStyleZero();
        limitsOnlyOfSumAndProdInStyleZero();
        widestOfLimits();
        reachOfLimits();
        upperAtLeast();
        upperAboveItsNucleus();
        upperAboveItsDepth();
        upperNucleusAgainstDepth();
        upperIfCramped();
        lowerAtLeast();
        lowerBelowItsNucleus();
        lowerBelowItsHeight();
        lowerNucleusAgainstHeight();
        bothLeaveFourThicknesses();
        widestOfScripts();
        reachOfScripts();
        firstOfFraction();
        secondOfFraction();
        widestOfFraction();
        gapsOfFractionByStyle();
        tallRoots();
        reachOfRoots();
        placeOfHats();
        sidesAsHighAsNeeded();
        reachOfSides();
        highestOfARow();
        deepestOfARow();
        gapsOfMatrices();
        rowsOfFewerCells();
        matricesBesideAndInOthers();
        tell();
    }

    // "All divisions round towards 0.": T = (Z + 2) / 3, AXIS = 5 * Z / 2, T / 2, z / 2, H / 2
    private static void divisionsThatLeaveNothingHalf() {
        int[] thickness = {4, 4, 3, 2};
        int[] axis = {25, 25, 17, 12};
        int[] halfSize = {5, 5, 3, 2};
        int[] size = {10, 10, 7, 5};
        for (int style = 0; style < 4; style++) {
            at("\\bar x", style, 1, SIZE, thickness[style]);
            at("\\left(\\right.", style, 0, Y, axis[style] - 4 * size[style]);
            at("\\frac{}{}", style, 0, Y, axis[style] - thickness[style] / 2);
            due("half a size in " + style, widthOf("{}^{}", style), halfSize[style]);
        }
        // H is 63 in style 2, so the top is at 17 + 31; it is 51 in style 3, so the top is at 12 + 25.
        measures("a cell of odd height", "\\mat{b}", 2, 49, 48, 15);
        measures("a root in a matrix", "\\mat{\\sqrt b}", 3, 60, 37, 14);
        // (h - d) / 2 of the sign of int: 25 in style 1, 17 of 35 in style 2, 12 of 25 in style 3.
        at("\\int", 2, 0, Y, 17 - 14);
        at("\\int", 3, 0, Y, 12 - 10);
    }

    // "All divisions round towards 0.": a hat that is wider than what it is on
    private static void divisionsOfNegativeNumbers() {
        at("\\hat y", 2, 1, X, -10);
        at("\\hat b", 2, 1, X, -3);
        at("\\hat y", 3, 1, X, -7);
        at("\\hat b", 3, 1, X, -2);
        at("\\hat{{}^{}}", 3, 0, X, -19);
        at("\\hat x", 3, 1, X, -10);
        at("\\hat c", 3, 1, X, 0);
        // 3 more than the hat in style 2: 56 + 3 - 56.
        at("\\hat{c^{}}", 2, 1, X, 1);
        at("\\hat{c{}^{}}", 3, 1, X, 1);
    }

    // "(w - its w) / 2"
    private static void theMiddleOfOddWidths() {
        // 41 wide: 11 are left beside a, 6 beside b.
        starts("\\frac ab", 2, "5 0 3");
        // 114 and 113 wide, 1 is left.
        starts("\\mat{a_b\\\\c_i}", 0, "0 60 0 80");
        // 113 and 60 wide, 53 are left.
        starts("\\mat{a\\\\c_i}", 0, "26 0 80");
        // 99 wide over 98, and 98 over 49.
        starts("\\sum^{c_c}", 0, "0 0 56");
        starts("\\sum^b", 0, "0 24");
        starts("\\sum_b", 0, "0 24");
    }

    // "The SCRIPT STYLE of 0 and 1 is 2, of the others 3."
    private static void scriptStyles() {
        String[] wanted = {"10 7 5 5", "10 7 5 5", "7 5 5 5", "5 5 5 5"};
        for (int style = 0; style < 4; style++) {
            sizes("x^{x^{x^x}}", style, wanted[style]);
            sizes("x_{x_{x_x}}", style, wanted[style]);
        }
    }

    // "The PART STYLE of 0 is 1, of 1 is 2, of the others 3."
    private static void partStyles() {
        int[][] wanted = {{10, 7, 5, 5}, {7, 5, 5, 5}, {5, 5, 5, 5}, {5, 5, 5, 5}};
        for (int deep = 0; deep < 4; deep++) {
            String first = "\\frac".repeat(deep + 1) + " x" + "{}".repeat(deep + 1);
            String second = "\\frac{}".repeat(deep + 1) + "x";
            for (int style = 0; style < 4; style++) {
                at(first, style, 0, SIZE, wanted[style][deep]);
                at(second, style, deep + 1, SIZE, wanted[style][deep]);
            }
        }
    }

    // "cells are set in style 1 if the style is 0, else in the same"
    private static void styleOfCells() {
        int[] sizes = {10, 10, 7, 5};
        for (int style = 0; style < 4; style++) {
            at("\\mat{\\sum}", style, 0, SIZE, sizes[style]);
            at("\\mat{\\mat{\\sum}}", style, 0, SIZE, sizes[style]);
        }
        sizes("\\mat{\\frac xx}", 0, "7 4 7");
        sizes("\\mat{\\frac xx}", 1, "7 4 7");
        sizes("\\mat{\\frac xx}", 2, "5 3 5");
    }

    // "cramped if that is", "cramped if the item is", "the lower one cramped", "in the same style, cramped"
    private static void cramped() {
        int[] free = {40, 40, 28, 20};
        int[] low = {30, 30, 21, 15};
        for (int style = 0; style < 4; style++) {
            at("x^1", style, 1, Y, free[style]);
            at("{x^1}", style, 1, Y, free[style]);
            at("\\left.x^1\\right.", style, 1, Y, free[style]);
            at("\\sqrt{x^1}", style, 3, Y, low[style]);
            at("\\sqrt{{x^1}}", style, 3, Y, low[style]);
            at("\\sqrt{\\left.x^1\\right.}", style, 3, Y, low[style]);
            at("\\hat{x^1}", style, 1, Y, low[style]);
            at("\\bar{x^1}", style, 1, Y, low[style]);
            risesBy("\\mat{x^1}", style, 0, 1, free[style]);
            risesBy("\\sqrt{\\mat{x^1}}", style, 2, 3, low[style]);
        }
        // In the parts: size 10 for style 0, 7 for style 1, 5 for the others; the scripts of scripts have size 5.
        int[] freePart = {40, 28, 20, 20};
        int[] lowPart = {30, 21, 15, 15};
        for (int style = 0; style < 4; style++) {
            risesBy("\\frac{x^1}2", style, 0, 1, freePart[style]);
            risesBy("\\frac2{x^1}", style, 2, 3, lowPart[style]);
            risesBy("\\sqrt{\\frac{x^1}2}", style, 2, 3, lowPart[style]);
        }
        risesBy("2^{x^1}", 0, 1, 2, 28);
        risesBy("2_{x^1}", 0, 1, 2, 21);
        risesBy("\\sqrt{2^{x^1}}", 0, 3, 4, 21);
        risesBy("\\sum^{x^1}", 0, 1, 2, 28);
        risesBy("\\sum_{x^1}", 0, 1, 2, 21);
    }

    // "d = 2 * s if c % 4 is 1, else 0"
    private static void depthsOfSigns() {
        int[] size = {10, 10, 7, 5};
        for (int style = 0; style < 4; style++) {
            measures("100 % 4 is 0", "d", style, 4 * size[style], 6 * size[style], 0);
            measures("101 % 4 is 1", "e", style, 5 * size[style], 7 * size[style], 2 * size[style]);
            measures("102 % 4 is 2", "f", style, 6 * size[style], 5 * size[style], 0);
            measures("103 % 4 is 3", "g", style, 7 * size[style], 6 * size[style], 0);
        }
    }

    // "a BIN becomes an ORD if it is the first", "or it is the last"
    private static void binFirstAndLast() {
        starts("+", 0, "0");
        starts("+a", 0, "0 70");
        starts("a+", 0, "0 60");
        starts("++", 0, "0 70");
        starts("a+a", 0, "0 73 156");
        starts("{+}a", 0, "0 70");
        starts("a{+}", 0, "0 60");
        starts("a{+}a", 0, "0 60 130");
        starts("a+{}", 0, "0 73");
        starts("{}+a", 0, "13 96");
        starts("\\left.+a\\right.", 0, "0 70");
        starts("\\left.a+\\right.", 0, "0 60");
        starts("\\mat{+a&a+}", 0, "0 70 170 230");
    }

    // "or the class before it (as it has become) is BIN, OP, REL, OPEN or PUNCT"
    private static void binBehindEachClass() {
        String[] before = {"a", "\\int", "a+", "=", "(", ")", ",", "\\left.a\\right."};
        boolean[] stays = {true, false, false, false, false, true, false, true};
        for (int i = 0; i < before.length; i++) {
            // An empty group is an ORD and adds nothing but the space before it.
            int behindOrd = widthOf(before[i] + "{}", 0) + 70 + 60;
            int want = stays[i] ? widthOf(before[i], 0) + 13 + 70 + 13 + 60 : behindOrd;
            due("BIN behind " + before[i], widthOf(before[i] + "+a", 0), want);
        }
    }

    // "becomes ORD if the next class is REL, CLOSE or PUNCT"
    private static void binBeforeEachClass() {
        String[] behind = {"a", "\\int", "=", "(", ")", ",", "\\left.a\\right."};
        boolean[] stays = {true, true, false, true, false, false, true};
        int[] binSpace = {13, 13, 0, 13, 0, 0, 13};
        int[] ordSpace = {0, 10, 16, 0, 0, 0, 10};
        for (int i = 0; i < behind.length; i++) {
            int want = stays[i] ? 60 + 13 + 70 + binSpace[i] : 60 + 70 + ordSpace[i];
            due("BIN before " + behind[i], widthOf("a+" + behind[i], 0), want + widthOf(behind[i], 0));
        }
        // Before a BIN that has become an ORD it stays.
        due("BIN before a BIN", widthOf("a++a", 0), 60 + 13 + 70 + 13 + 70 + 60);
    }

    // "(as it has become)", "then each that is still BIN"
    private static void binBehindWhatHasBecome() {
        starts("++a", 0, "0 83 166");
        starts("+++a", 0, "0 83 166 236");
        starts("a+++a", 0, "0 73 156 239 322");
        starts("a++++a", 0, "0 73 156 239 322 392");
        starts("a+++=", 0, "0 73 156 226 312");
        starts("a++=", 0, "0 73 156 242");
        starts("a+++", 0, "0 73 156 226");
        starts("=++a", 0, "0 66 149 232");
    }

    // "0 is none, 1 is Z, and only in the styles 0 and 1: 2 is 4 * Z / 3, 3 is 5 * Z / 3, 4 is Z"
    private static void spacesOfStylesZeroAndOneOnly() {
        String[] pairs = {"ab", "a\\int", "a+b", "a=", "a\\left.\\right."};
        int[] bare = {13, 13, 20, 11, 6};
        int[][] spaces = {{0, 0, 0, 0}, {10, 10, 7, 5}, {26, 26, 0, 0}, {16, 16, 0, 0}, {10, 10, 0, 0}};
        int[] size = {10, 10, 7, 5};
        for (int i = 0; i < pairs.length; i++) {
            for (int style = 0; style < 4; style++) {
                // The sign of int has size 14 in style 0.
                int larger = i == 1 && style == 0 ? 28 : 0;
                due("space in " + pairs[i] + " in " + style, widthOf(pairs[i], style), bare[i] * size[style] + larger + spaces[i][style]);
            }
        }
        due("scripts have no such space", widthOf("{}^{a=}", 0), 11 * 7 + 5);
        due("scripts have space 1", widthOf("{}^{a\\int}", 0), 13 * 7 + 7 + 5);
        due("parts of style 0 have it", widthOf("\\frac{a=}{}", 0), 110 + 16 + 8);
        due("parts of style 1 have not", widthOf("\\frac{a=}{}", 1), 77 + 8);
        due("nor an empty list", widthOf("a{}", 0), 60);
        due("an empty group is an ORD", widthOf("={}", 0), 66);
    }

    // "w is the sum, h and d are the greatest ones, 0 for an empty list."
    private static void greatestOfAList() {
        measures("the first is the highest", "bx", 0, 110, 70, 0);
        measures("the last is the highest", "xb", 0, 110, 70, 0);
        measures("the first is the deepest", "ix", 0, 80, 50, 20);
        measures("the last is the deepest", "xi", 0, 80, 50, 20);
        measures("highest and deepest are two", "ib", 0, 110, 70, 20);
        measures("one that lies below beside one above", "{}_x{}^x", 0, 66, 75, 20);
        measures("an empty group", "{}", 0, 0, 0, 0);
    }

    // "S, P or I for sum, prod and int, as a sign at size Z, in style 0 at size 14"
    // ("but at least 0" is never needed: all three signs reach below the base line in all styles.)
    private static void operatorsInStyleZero() {
        int[] size = {14, 10, 7, 5};
        String[] commands = {"\\sum", "\\prod", "\\int"};
        int[] codes = {83, 80, 73};
        for (int i = 0; i < 3; i++) {
            for (int style = 0; style < 4; style++) {
                at(commands[i], style, 0, 1, codes[i]);
                at(commands[i], style, 0, SIZE, size[style]);
                at(commands[i], style, 0, WIDTH, size[style] * (4 + codes[i] % 5));
            }
        }
        measures("sum in 3", "\\sum", 3, 35, 30, 5);
        measures("int in 3", "\\int", 3, 35, 32, 8);
        at("\\sqrt\\sum", 0, 2, SIZE, 14);
        at("\\frac\\sum{}", 0, 0, SIZE, 10);
        at("x^\\sum", 0, 1, SIZE, 7);
    }

    // "With sum and prod in style 0", "Otherwise"
    private static void limitsOnlyOfSumAndProdInStyleZero() {
        starts("\\sum^x_x", 0, "0 35 35");
        starts("\\prod^x_x", 0, "0 14 14");
        starts("\\int^x_x", 0, "0 98 88");
        starts("\\sum^x_x", 1, "0 70 70");
        starts("\\prod^x_x", 2, "0 28 28");
        starts("\\prod^x_x", 3, "0 20 20");
        starts("{\\sum}^x_x", 0, "0 98 98");
        starts("\\hat\\sum^x", 0, "0 9 98");
        starts("\\sqrt{\\sum^x}", 0, "0 50 50 85");
        starts("{\\sum^x}", 0, "0 35");
        starts("\\left.\\sum^x\\right.", 0, "0 35");
        starts("\\mat{\\sum^x}", 0, "0 70");
        starts("\\frac{\\sum^x}{}", 0, "4 74 0");
    }

    // "w is the greatest w of the three; each is in (w - its w) / 2"
    private static void widestOfLimits() {
        // prod is 56 wide; {}^{a_i} 55, c 56, {e^d} 58 wide.
        starts("\\prod^{{}^{a_i}}", 0, "0 0 30");
        starts("\\prod^c", 0, "0 0");
        starts("\\prod^{e^d}", 0, "1 0 35");
        starts("\\prod_{{}_{a_i}}", 0, "0 0 30");
        starts("\\prod_c", 0, "0 0");
        starts("\\prod_{e_d}", 0, "1 0 35");
        measures("the nucleus is the widest", "\\prod^b_b", 0, 56, 131, 81);
        measures("the upper is the widest", "\\prod^{bb}_b", 0, 98, 131, 81);
        measures("the lower is the widest", "\\prod^b_{bb}", 0, 98, 131, 81);
        starts("\\prod^{bb}_b", 0, "21 0 49 24");
        starts("\\prod^b_{bb}", 0, "21 24 0 49");
        starts("\\prod^{bb}_{bb}", 0, "21 0 49 0 49");
    }

    // "h and d reach to the upper's top and to the lower's bottom (to B's, if there is none such)."
    private static void reachOfLimits() {
        measures("none", "\\sum", 0, 98, 74, 24);
        measures("an upper", "\\sum^a", 0, 98, 74 + 8 + 14 + 42, 24);
        measures("a lower", "\\sum_a", 0, 98, 74, 24 + 8 + 42 + 14);
        measures("both", "\\sum^a_a", 0, 98, 138, 88);
        measures("empty ones", "\\sum^{}_{}", 0, 98, 82, 32);
    }

    // "the greatest of 4 * z ..., B's h - 2 * z": 20 against 19, 20, 21 in style 3
    private static void upperAtLeast() {
        at("\\mat{}^x", 3, 0, Y, 20);
        at("d^x", 3, 1, Y, 20);
        at("\\bar x^x", 3, 2, Y, 21);
        // 40 against 30, 40, 42, 50 in style 0.
        at("x^x", 0, 1, Y, 40);
        at("d^x", 0, 1, Y, 40);
        at("\\bar c^x", 0, 2, Y, 42);
        at("b^x", 0, 1, Y, 50);
        at("{}^x", 0, 0, Y, 40);
    }

    // "B's h - 2 * z" is what a high nucleus lifts its upper to
    private static void upperAboveItsNucleus() {
        at("\\sum^x", 1, 1, Y, 40);
        at("\\int^x", 1, 1, Y, 45);
        at("\\int^x", 0, 1, Y, 61);
        at("\\frac xx^x", 0, 3, Y, 100);
    }

    // "4 * z ... and its d + z": 20 against 19, 20, 21 in style 3
    private static void upperAboveItsDepth() {
        // The root's depth is 14, that of a_b is 15, that of the matrix 16.
        at("x^{\\sqrt a}", 3, 3, Y, 20);
        at("x^{a_b}", 3, 1, Y, 20);
        at("{}^{\\mat{c^c}}", 3, 0, Y, 21 + 39 - 45);
    }

    // "B's h - 2 * z, and its d + z": 25 against 24, 25, 26 in style 3
    private static void upperNucleusAgainstDepth() {
        // The depth of the root is 19, those of the fractions 20 and 21; the first parts stand 20 above.
        at("b^{\\sqrt i}", 3, 3, Y, 25);
        at("b^{\\frac xx}", 3, 1, Y, 25 + 20);
        at("b^{\\frac xd}", 3, 1, Y, 26 + 20);
    }

    // "(3 * z if cramped)"
    private static void upperIfCramped() {
        // 15 against B's 10, 15, 19 in style 3.
        at("\\sqrt{\\frac{}{}^x}", 3, 3, Y, 15);
        at("\\sqrt{x^x}", 3, 3, Y, 15);
        at("\\sqrt{\\mat{}^x}", 3, 2, Y, 19);
        // 15 against the upper's 14, 15, 16: depths of 9, 10, 11.
        at("\\sqrt{x^{\\sqrt c}}", 3, 5, Y, 15);
        at("\\sqrt{x^a}", 3, 3, Y, 15);
        at("\\sqrt{x^{\\mat{b}}}", 3, 3, Y, 16 + 34 - 35);
        at("\\sqrt{x^x}", 0, 3, Y, 30);
        at("\\sqrt{d^x}", 0, 3, Y, 40);
    }

    // "DOWN being the greatest of 2 * z, ..."
    private static void lowerAtLeast() {
        int[] least = {20, 20, 14, 10};
        for (int style = 0; style < 4; style++) {
            at("x_x", style, 1, Y, -least[style]);
            at("{}_x", style, 0, Y, -least[style]);
        }
    }

    // "2 * z, B's d + z / 2": 14 against 13, 14, 15 in style 2, 10 against 8, 10, 11 in style 3
    private static void lowerBelowItsNucleus() {
        at("\\sqrt{\\bar{}}_x", 2, 3, Y, -14);
        at("\\int_x", 2, 1, Y, -14);
        at("\\sqrt b_x", 2, 3, Y, -15);
        at("\\mat{}_x", 3, 0, Y, -10);
        at("\\int_x", 3, 1, Y, -10);
        at("\\sqrt b_x", 3, 3, Y, -11);
        at("a_x", 0, 1, Y, -25);
        at("\\int_x", 0, 1, Y, -36);
    }

    // "2 * z, ... and its h - 4 * z": 10 against 9, 10, 11 in style 3
    private static void lowerBelowItsHeight() {
        measures("29 high", "x_{\\mat{}}", 3, 22, 25, 10 + 6);
        at("x_d", 3, 1, Y, -10);
        at("x_{\\bar c}", 3, 1, Y, -11);
        at("x_b", 3, 1, Y, -15);
        at("x_b", 0, 1, Y, -20);
    }

    // "B's d + z / 2, and its h - 4 * z": 12 against 11, 12, 13 in style 3
    private static void lowerNucleusAgainstHeight() {
        at("a_{\\bar c}", 3, 1, Y, -12);
        // The sign of int is 2 above its base line, in the matrix its base line 1 above that of the matrix.
        at("a_\\int", 3, 1, Y, -12 + 2);
        at("a_{\\mat{\\int}}", 3, 1, Y, -13 + 1 + 2);
    }

    // "with both, if UP - the upper's d - (the lower's h - DOWN) is less than 4 * t, DOWN grows by what is missing"
    private static void bothLeaveFourThicknesses() {
        // 40 - 0 - (45 - 20) is 15, 40 - 14 - (35 - 25) is 16, 50 - 11 - (42 - 20) is 17; 16 are needed.
        at("c^b_\\int", 0, 2, Y, -21 + 3);
        at("a^a_c", 0, 2, Y, -25);
        at("b^\\int_a", 0, 2, Y, -20);
        // The same without an upper, or without a lower.
        at("c_\\int", 0, 1, Y, -20 + 3);
        at("c^b", 0, 1, Y, 40);
        // 12 are needed in style 2: 28 - 10 - (25 - 17) is 10, 35 - 8 - (30 - 14) is 11, 28 - 0 - (30 - 14) is 12.
        at("a^a_c", 2, 2, Y, -19);
        at("b^\\int_a", 2, 2, Y, -15);
        at("c^b_a", 2, 2, Y, -14);
        // 8 are needed in style 3: 20 - 0 - (25 - 12) is 7, 25 - 0 - (25 - 10) is 10.
        at("a^b_c", 3, 2, Y, -13);
        at("b^b_c", 3, 2, Y, -10);
        // Empty scripts leave 60.
        measures("empty scripts", "x^{}_{}", 0, 45, 50, 20);
    }

    // "Both are at x = B's w (the lower z less with int). w is z / 2 more than the greatest of B's w and their ends"
    private static void widestOfScripts() {
        due("the upper ends last", widthOf("x^b_a", 0), 40 + 49 + 5);
        due("the lower ends last", widthOf("x^a_b", 0), 40 + 49 + 5);
        due("both end there", widthOf("x^b_b", 0), 40 + 49 + 5);
        due("they end with the nucleus", widthOf("x^{}_{}", 0), 40 + 5);
        starts("\\int^x_x", 1, "0 70 60");
        starts("\\int^x_x", 2, "0 49 42");
        starts("\\int^x_x", 3, "0 35 30");
        starts("{\\int}^x_x", 1, "0 70 70");
        // The lower begins at 60 of 70 in style 1, and is 0, 8, 10, 12 wide.
        due("it ends before", widthOf("\\int_{}", 1), 75);
        due("it ends shortly before", widthOf("\\int_{\\frac{{}^{}}{}}", 1), 75);
        due("it ends there", widthOf("\\int_{\\frac{{}^{}{}^{}}{}}", 1), 75);
        due("it ends behind", widthOf("\\int_{\\frac{{}^{}{}^{}{}^{}}{}}", 1), 77);
    }

    // "h is the greater of B's h and UP + the upper's h, d the greater of B's d and DOWN + the lower's d"
    private static void reachOfScripts() {
        // 35 against 28 + 6, 30 against 30 + 0, 25 against 20 + 6.
        measures("the nucleus is higher", "c^{\\bar{}}", 2, 59, 35, 0);
        measures("both are as high", "a^{{}_e}", 3, 59, 30, 10);
        measures("the upper is higher", "c^{\\bar{}}", 3, 42, 26, 0);
        measures("a lower leaves the height", "b_x", 0, 103, 70, 20);
        measures("an upper leaves the depth", "a^x", 0, 93, 75, 20);
        measures("the lower is deeper", "a_a", 0, 107, 60, 39);
        measures("an empty lower is deeper, too", "a_{}", 0, 65, 60, 25);
    }

    // "The first is at y = the greater of s and the rule's top + c + its d"
    private static void firstOfFraction() {
        // 70 against 69, 70, 71 in style 0.
        at("\\frac{b_\\sqrt\\bar{}}{}", 0, 0, Y, 70);
        at("\\frac{b_\\int}{}", 0, 0, Y, 70);
        at("\\frac{a_\\sum}{}", 0, 0, Y, 71);
        // 20 against 19, 20, 21 in style 3; the sign of sum is 5 below its base line, the cell 4 above that of the matrix.
        at("\\frac{\\sqrt d}{}", 3, 2, Y, 20);
        at("\\frac\\sum{}", 3, 0, Y, 20 - 5);
        at("\\frac{\\mat{c}}{}", 3, 0, Y, 21 + 4);
        measures("it reaches to the first's top", "\\frac b{}", 0, 78, 140, 70);
    }

    // "the second at y = -(the greater of s and its h + c - the rule's y)"
    private static void secondOfFraction() {
        // 70 against 69, 70, 71 in style 0, 40 against 39, 40, 41 in style 1.
        at("\\frac{}{\\hat b}", 0, 1, Y, -70);
        at("\\frac{}{i^{c^a}}", 0, 1, Y, -70);
        at("\\frac{}{a^a}", 0, 1, Y, -71);
        at("\\frac{}{a^a}", 1, 1, Y, -40);
        at("\\frac{}{a^{\\bar c}}", 1, 1, Y, -40);
        at("\\frac{}{b^c}", 1, 1, Y, -41);
        // 28 against 27, 28, 29 in style 2.
        at("\\frac{}{c^c}", 2, 1, Y, -28);
        at("\\frac{}{\\bar b}", 2, 1, Y, -28);
        at("\\frac{}{\\bar\\sqrt a}", 2, 3, Y, -29);
        // 20 against 17, 20, 21 in style 3.
        measures("26 high", "\\frac{}{\\bar{\\frac{}a}}", 3, 38, 20, 20 + 31);
        measures("29 high", "\\frac{}{\\mat{}}", 3, 4, 20, 20 + 6);
        at("\\frac{}d", 3, 1, Y, -21);
        measures("it reaches to the second's bottom", "\\frac{}a", 0, 68, 70, 90);
    }

    // "w is 2 * T more than the greater of their w; both are in the middle ((w - its w) / 2)"
    private static void widestOfFraction() {
        // a is 60, {}^c 61 wide.
        starts("\\frac a{{}^c}", 0, "4 0 4");
        starts("\\frac{{}^c}a", 0, "4 0 4");
        starts("\\frac aa", 0, "4 0 4");
        due("the second is wider", widthOf("\\frac a{{}^c}", 0), 69);
        due("the first is wider", widthOf("\\frac{{}^c}a", 0), 69);
        due("both are as wide", widthOf("\\frac aa", 0), 68);
        int[] least = {8, 8, 6, 4};
        for (int style = 0; style < 4; style++) {
            due("both are empty in " + style, widthOf("\\frac{}{}", style), least[style]);
            at("\\frac{}{}", style, 0, WIDTH, least[style]);
        }
    }

    // "c is 3 * T in style 0, else T; s is 7 * Z in style 0, else 4 * Z"
    private static void gapsOfFractionByStyle() {
        int[] least = {70, 40, 28, 20};
        for (int style = 0; style < 4; style++) {
            measures("empty parts", "\\frac{}{}", style, style < 2 ? 8 : 10 - 2 * style, least[style], least[style]);
        }
        // The rule's top + c + 14 or 10.
        at("\\frac i{}", 1, 0, Y, 45);
        at("\\frac i{}", 2, 0, Y, 32);
        at("\\frac i{}", 3, 0, Y, 25);
    }

    // "so high as the least multiple of 2 * Z that is not less"
    private static void tallRoots() {
        // Needed are 79, 70, 51, 41, 6 in style 3, 44 and 58 in style 2, 120 and 159 in style 0.
        at("\\sqrt{a^a_x}", 3, 0, SIZE, 80);
        at("\\sqrt{a_{i_a}}", 3, 0, SIZE, 70);
        at("\\sqrt{a_b}", 3, 0, SIZE, 60);
        at("\\sqrt b", 3, 0, SIZE, 50);
        at("\\sqrt{}", 3, 0, SIZE, 10);
        at("\\sqrt\\bar\\bar\\bar\\bar{}", 3, 0, SIZE, 30);
        at("\\sqrt x", 2, 0, SIZE, 56);
        at("\\sqrt b", 2, 0, SIZE, 70);
        at("\\sqrt{a^a}", 0, 0, SIZE, 120);
        at("\\sqrt{\\int^b}", 0, 0, SIZE, 160);
        at("\\sqrt{}", 0, 0, SIZE, 20);
    }

    // "h is B's h + c + T, d the greater of B's d and the tall sign's bottom below the base line"
    private static void reachOfRoots() {
        measures("the sign ends where B ends", "\\sqrt{a^a}", 0, 157, 100, 20);
        measures("the sign ends 1 below B", "\\sqrt{\\int^b}", 0, 202, 128, 32);
        measures("the sign ends 2 below B", "\\sqrt a", 0, 110, 78, 22);
        // c is T + Z in style 0, 2 * T else.
        measures("c in style 0", "\\sqrt{}", 0, 50, 18, 2);
        measures("c in style 1", "\\sqrt{}", 1, 50, 12, 8);
        measures("c in style 2", "\\sqrt{}", 2, 35, 9, 5);
        measures("c in style 3", "\\sqrt{}", 3, 25, 6, 4);
    }

    // "y = the greater of 0 and B's h - 5 * Z; h is the greater of B's h and that y + the sign's h"
    private static void placeOfHats() {
        // Heights of 24, 25, 26 in style 3.
        at("\\hat{\\bar\\bar\\bar\\bar{}}", 3, 4, Y, 0);
        at("\\hat c", 3, 1, Y, 0);
        at("\\hat{\\bar{\\frac{}{}}}", 3, 2, Y, 1);
        at("\\hat d", 3, 1, Y, 5);
        at("\\hat{}", 3, 0, Y, 0);
        measures("on nothing", "\\hat{}", 3, 0, 30, 0);
        measures("on 24", "\\hat{\\bar\\bar\\bar\\bar{}}", 3, 0, 30, 0);
        measures("on 25", "\\hat c", 3, 40, 30, 0);
        measures("on 26", "\\hat{\\bar{\\frac{}{}}}", 3, 4, 31, 20);
    }

    // "as high (H) as is needed for 2 * the greatest of B's h - AXIS, B's d + AXIS and 4 * Z"
    private static void sidesAsHighAsNeeded() {
        // B's h - AXIS is 19, 20, 21 in style 3.
        at("\\left(\\bar c\\right)", 3, 0, SIZE, 40);
        at("\\left(\\int\\right)", 3, 0, SIZE, 40);
        at("\\left(\\mat{\\int}\\right)", 3, 0, SIZE, 50);
        // B's d + AXIS is 18, 20, 21 in style 3.
        at("\\left(\\mat{}\\right)", 3, 0, SIZE, 40);
        at("\\left(\\sqrt c\\right)", 3, 0, SIZE, 50);
        // In style 0: 45 and 45; 25 and 45; 50 and 25; 45 and 59; 57 and 25.
        at("\\left(e\\right)", 0, 0, SIZE, 100);
        at("\\left(i\\right)", 0, 0, SIZE, 100);
        at("\\left(x^x\\right)", 0, 0, SIZE, 100);
        at("\\left(b_a\\right)", 0, 0, SIZE, 120);
        at("\\left(x^d\\right)", 0, 0, SIZE, 120);
        int[] least = {80, 80, 56, 40};
        for (int style = 0; style < 4; style++) {
            at("\\left(\\right.", style, 0, SIZE, least[style]);
            at("\\left.\\right)", style, 0, SIZE, least[style]);
        }
        at("\\left.b_a\\right)", 0, 2, Y, 25 - 60);
    }

    // "h is the greater of B's h and, if there is such a sign, AXIS + H / 2; d ... likewise"
    private static void reachOfSides() {
        measures("no sign", "\\left.x\\right.", 0, 40, 50, 0);
        measures("a left sign", "\\left(x\\right.", 0, 80, 65, 15);
        measures("a right sign", "\\left.x\\right)", 0, 80, 65, 15);
        measures("two signs", "\\left(x\\right)", 0, 120, 65, 15);
        measures("no sign, nothing between", "\\left.\\right.", 3, 0, 0, 0);
        measures("B is as high", "\\left(x^x\\right)", 0, 153, 75, 25);
        measures("B is as deep", "\\left(\\int\\right)", 3, 75, 32, 8);
        measures("no sign about what is high and deep", "\\left.\\int\\right.", 3, 35, 32, 8);
    }

    // "a row's h is the greatest of its cells' and 5 * Z"
    private static void highestOfARow() {
        // Heights of 24, 25, 26 in style 3.
        measures("24", "\\mat{\\bar\\bar\\bar\\bar{}}", 3, 0, 29, 6);
        measures("25", "\\mat{c}", 3, 40, 29, 6);
        measures("26", "\\mat{c^{\\bar{}}}", 3, 42, 30, 6);
        measures("the first cell is the highest", "\\mat{b&x}", 0, 150, 70, 20);
        measures("the last cell is the highest", "\\mat{x&b}", 0, 150, 70, 20);
        starts("\\mat{x&b}", 0, "0 80");
        at("\\mat{x&b}", 0, 0, Y, 0);
    }

    // "its d the greatest of its cells' and 2 * Z"
    private static void deepestOfARow() {
        // Depths of 9, 10, 11 in style 3.
        measures("9", "\\mat{\\sqrt b}", 3, 60, 12 + 25, 51 - 37);
        measures("10", "\\mat{a}", 3, 30, 12 + 20, 40 - 32);
        measures("11", "\\mat{\\mat{b}}", 3, 35, 12 + 22, 45 - 34);
        measures("12", "\\mat{a_x}", 3, 52, 12 + 21, 42 - 33);
        measures("the first cell is the deepest", "\\mat{a_x&x}", 0, 173, 25 + 42, 85 - 67);
        measures("the last cell is the deepest", "\\mat{x&a_x}", 0, 173, 25 + 42, 85 - 67);
    }

    // "with 4 * Z between two", "with Z between two rows"
    private static void gapsOfMatrices() {
        int[] size = {10, 10, 7, 5};
        int[] axis = {25, 25, 17, 12};
        for (int style = 0; style < 4; style++) {
            for (int many = 1; many <= 8; many++) {
                String columns = "\\mat{" + "&".repeat(many - 1) + "}";
                due(columns + " in " + style, widthOf(columns, style), 4 * size[style] * (many - 1));
                String rows = "\\mat{" + "\\\\".repeat(many - 1) + "}";
                int whole = 7 * size[style] * many + size[style] * (many - 1);
                int top = axis[style] + whole / 2;
                measures(many + " rows", rows, style, 0, top, whole - top);
            }
        }
    }

    // "A column is as wide as its widest cell", "(A row may have fewer cells than others.)"
    private static void rowsOfFewerCells() {
        starts("\\mat{a&b\\\\c}", 1, "10 120 0");
        starts("\\mat{a\\\\b&c}", 1, "5 0 110");
        starts("\\mat{a&b&c\\\\}", 1, "0 100 210");
        starts("\\mat{\\\\a&b&c}", 1, "0 100 210");
        starts("\\mat{&a\\\\b}", 1, "110 0");
        due("the widest of a column is in another row", widthOf("\\mat{a&b\\\\c}", 1), 80 + 40 + 70);
        due("a column that only the second row has", widthOf("\\mat{a\\\\b&c}", 1), 70 + 40 + 80);
        due("columns that are empty in all rows", widthOf("\\mat{a&&\\\\b}", 1), 70 + 80);
    }

    // The measures of a matrix are its own: 1 row beside 3, 1 column beside 3.
    private static void matricesBesideAndInOthers() {
        measures("3 rows, then 1", "\\mat{\\\\\\\\}\\mat{}", 1, 10, 25 + 115, 230 - 140);
        at("\\mat{\\\\\\\\}\\mat{x}", 1, 0, Y, 10);
        starts("\\mat{&&}\\mat{x}", 1, "90");
        measures("3 columns, then 1", "\\mat{a&b&c}\\mat{}", 1, 60 + 40 + 70 + 40 + 80 + 10, 70, 20);
        // Within the cell the inner matrix is 230 high, 140 of it above its base line, and the row 140 and 90.
        measures("3 rows in 1", "\\mat{\\mat{\\\\\\\\}}", 1, 0, 140, 90);
        measures("3 columns in 1", "\\mat{\\mat{&&}}", 1, 80, 25 + 40, 80 - 65);
        measures("1 in the first of 3 columns", "\\mat{\\mat{a}&&}", 1, 60 + 80, 25 + 42, 85 - 67);
    }

    // Help

    private static void at(String text, int style, int i, int what, int want) {
        FormulaSetter f = typed(text);
        set(f, style);
        due("fact " + what + " of piece " + i + " of " + text + " in " + style, piece(f, i, what), want);
    }

    /** How far the second of two pieces stands above the first. */
    private static void risesBy(String text, int style, int from, int to, int want) {
        FormulaSetter f = typed(text);
        set(f, style);
        due("rise in " + text + " in " + style, piece(f, to, Y) - piece(f, from, Y), want);
    }

    private static void sizes(String text, int style, String want) {
        FormulaSetter f = typed(text);
        set(f, style);
        due("sizes in " + text + " in " + style, facts(f, SIZE), want);
    }

    private static void measures(String name, String text, int style, int width, int height, int depth) {
        FormulaSetter f = typed(text);
        set(f, style);
        String got = f.width() + " " + f.height() + " " + f.depth();
        due(name + ": " + text + " in " + style, got, width + " " + height + " " + depth);
    }
}
