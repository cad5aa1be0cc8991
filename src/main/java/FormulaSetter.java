import java.util.Arrays;

/**
 * Sets formulas that are written as a line of text: a Reader makes a tree of the text, a Typesetter
 * walks through the tree and writes signs and rules at places on a Sheet.
 */
public final class FormulaSetter {

    public static final int NONE = -1000000;

    private static final int MOST_CHARACTERS = 160;
    private static final int LOWEST_CHARACTER = 32;
    private static final int HIGHEST_CHARACTER = 126;
    private static final int MOST_BYTES = 8;

    private static final int MOST_NUCLEI = 60;
    private static final int DEEPEST = 6;
    private static final int MOST_ROWS = 8;
    private static final int MOST_COLUMNS = 8;
    /** Every list but the outermost one begins behind a character of its own. */
    private static final int MOST_LINES = MOST_CHARACTERS + 1;

    /** No nucleus brings more than two pieces of its own (a root, two brackets). */
    private static final int MOST_PIECES = 2 * MOST_NUCLEI;
    private static final int FACTS = 6;
    private static final int SIGN = 0;
    private static final int RULE = 1;
    private static final int TALL_SIGN = 2;

    private static final int ROOT_CODE = 35;
    private static final int HAT_CODE = 94;
    private static final int BIG_OPERATOR_SIZE = 14;
    private static final char NO_SIDE = '.';
    /** What is read behind the text's end; no text has it. */
    private static final char TEXT_END = 0;

    private static final Style[] STYLES = Style.values();
    private static final Kind[] KINDS = Kind.values();

    private final char[] text;
    private final Reader reader;
    private final Typesetter typesetter;
    private int length;
    private int wholeWidth;
    private int wholeHeight;
    private int wholeDepth;

    public FormulaSetter() {
        text = new char[MOST_CHARACTERS];
        reader = new Reader();
        typesetter = new Typesetter();
    }

    public int type(long characters, int n) {
        if (n < 1 || n > MOST_BYTES || length + n > MOST_CHARACTERS) {
            return NONE;
        }
        for (int i = 0; i < n; i++) {
            int c = byteOf(characters, i);
            if (c < LOWEST_CHARACTER || c > HIGHEST_CHARACTER) {
                return NONE;
            }
        }
        for (int i = n - 1; i >= 0; i--) {
            text[length] = (char) byteOf(characters, i);
            length++;
        }
        return length;
    }

    public int wipe() {
        int had = length;
        length = 0;
        return had;
    }

    public int set(int style) throws IllegalArgumentException {
        if (style < 0 || style >= STYLES.length) {
            throw new IllegalArgumentException("the style is not 0 .. 3");
        }
        Line outermost = reader.read(text, length);
        if (outermost == null) {
            throw new IllegalArgumentException("the text is no formula");
        }
        typesetter.setAll(outermost, STYLES[style]);
        wholeWidth = outermost.w;
        wholeHeight = outermost.h;
        wholeDepth = outermost.d;
        return typesetter.sheet.count;
    }

    public boolean isFormula() {
        return reader.read(text, length) != null;
    }

    public int pieces() {
        return typesetter.sheet.count;
    }

    public int piece(int i, int what) throws IndexOutOfBoundsException {
        Sheet sheet = typesetter.sheet;
        if (i < 0 || i >= sheet.count || what < 0 || what >= FACTS) {
            throw new IndexOutOfBoundsException("there is no such piece or no such fact of it");
        }
        return sheet.facts[i * FACTS + what];
    }

    public int width() {
        return wholeWidth;
    }

    public int height() {
        return wholeHeight;
    }

    public int depth() {
        return wholeDepth;
    }

    private static int byteOf(long characters, int i) {
        return (int) (characters >>> (8 * i)) & 255;
    }

    /** The styles, each with the measures that come with it. */
    private enum Style {
        DISPLAY(10), TEXT(10), SCRIPT(7), LEAST(5);

        final int size;
        final int thickness;
        final int axis;

        Style(int size) {
            this.size = size;
            this.thickness = (size + 2) / 3;
            this.axis = 5 * size / 2;
        }

        boolean isLarge() {
            return this == DISPLAY || this == TEXT;
        }

        Style forScripts() {
            return isLarge() ? SCRIPT : LEAST;
        }

        Style forParts() {
            if (this == DISPLAY) {
                return TEXT;
            }
            return this == TEXT ? SCRIPT : LEAST;
        }

        Style forCells() {
            return this == DISPLAY ? TEXT : this;
        }

        /** How high a tall sign is of which a height is needed. */
        int tallFor(int needed) {
            int step = 2 * size;
            return step > 0 ? (needed + step - 1) / step * step : needed;
        }

        int spaceBetween(Atom left, Atom right) {
            int rule = left.spaces.charAt(right.column) - '0';
            if (rule == 1) {
                return size;
            }
            if (!isLarge()) {
                return 0;
            }
            switch (rule) {
                case 2:
                    return 4 * size / 3;
                case 3:
                    return 5 * size / 3;
                case 4:
                    return size;
                default:
                    return 0;
            }
        }
    }

    /** The classes, each with its row of spaces to what stands behind it. */
    private enum Atom {
        ORD(0, "01230004", false, false),
        OP(1, "11030004", true, false),
        BIN(2, "22002002", true, false),
        REL(3, "33003003", true, true),
        OPEN(4, "00000000", true, false),
        CLOSE(5, "01230004", false, true),
        PUNCT(6, "44044444", true, true),
        INNER(7, "41234044", false, false);

        final int column;
        final String spaces;
        final boolean noBinBehind;
        final boolean noBinBefore;

        Atom(int column, String spaces, boolean noBinBehind, boolean noBinBefore) {
            this.column = column;
            this.spaces = spaces;
            this.noBinBehind = noBinBehind;
            this.noBinBefore = noBinBefore;
        }

        /** The class of a character that is a nucleus by itself; null for the others. */
        static Atom ofCharacter(char c) {
            if (isLetter(c) || c >= '0' && c <= '9' || ".!/|".indexOf(c) >= 0) {
                return ORD;
            }
            if ("+-*".indexOf(c) >= 0) {
                return BIN;
            }
            if ("=<>".indexOf(c) >= 0) {
                return REL;
            }
            if ("([".indexOf(c) >= 0) {
                return OPEN;
            }
            if (")]".indexOf(c) >= 0) {
                return CLOSE;
            }
            return ",;".indexOf(c) >= 0 ? PUNCT : null;
        }

        static boolean isLetter(char c) {
            return c >= 'a' && c <= 'z' || c >= 'A' && c <= 'Z';
        }
    }

    /** The kinds of nuclei: the name of the command, and an operator's sign. */
    private enum Kind {
        CHARACTER("", 0), GROUP("", 0),
        SUM("sum", 'S'), PROD("prod", 'P'), INT("int", 'I'),
        FRAC("frac", 0), SQRT("sqrt", 0), HAT("hat", 0), BAR("bar", 0),
        LEFT("left", 0), MAT("mat", 0);

        final String command;
        final int operator;

        Kind(String command, int operator) {
            this.command = command;
            this.operator = operator;
        }

        Atom atom() {
            if (operator != 0) {
                return Atom.OP;
            }
            return this == FRAC || this == LEFT || this == MAT ? Atom.INNER : Atom.ORD;
        }

        boolean takesLimits() {
            return this == SUM || this == PROD;
        }
    }

    /** A box, and which pieces of the sheet are in it: from the first to before the end. */
    private abstract static class Box {
        int w;
        int h;
        int d;
        int from;
        int end;

        void measure(int width, int height, int depth) {
            w = width;
            h = height;
            d = depth;
        }
    }

    /** A nucleus; where it is an item of a list, with its scripts, and its box is then the item's. */
    private static final class Nucleus extends Box {
        Kind kind;
        Atom atom;
        /** A character, an operator's sign, or what stands on the left side. */
        int code;
        int rightCode;
        Nucleus first;
        Nucleus second;
        /** The list of a group or between two sides, or the first cell of a matrix. */
        Line inside;
        Nucleus upper;
        Nucleus lower;
        Nucleus next;

        void clear() {
            kind = null;
            atom = null;
            code = 0;
            rightCode = 0;
            first = null;
            second = null;
            inside = null;
            upper = null;
            lower = null;
            next = null;
        }
    }

    /** A list; where it is a cell of a matrix, with its place there and the cell behind it. */
    private static final class Line extends Box {
        Nucleus first;
        int row;
        int column;
        Line next;

        void clear() {
            first = null;
            row = 0;
            column = 0;
            next = null;
        }

        /** Makes an ORD of each BIN that has nothing to join. */
        void settleAtoms() {
            Nucleus before = null;
            for (Nucleus item = first; item != null; item = item.next) {
                if (item.atom == Atom.BIN && (before == null || before.atom.noBinBehind)) {
                    item.atom = Atom.ORD;
                }
                before = item;
            }
            for (Nucleus item = first; item != null; item = item.next) {
                if (item.atom == Atom.BIN && (item.next == null || item.next.atom.noBinBefore)) {
                    item.atom = Atom.ORD;
                }
            }
        }
    }

    /** Makes the tree of a text. Nuclei and lists are made once and used again by the next reading. */
    private static final class Reader {
        private final Nucleus[] nuclei;
        private final Line[] lines;
        private int nucleusCount;
        private int lineCount;
        private char[] text;
        private int length;
        private int at;

        Reader() {
            nuclei = new Nucleus[MOST_NUCLEI];
            for (int i = 0; i < MOST_NUCLEI; i++) {
                nuclei[i] = new Nucleus();
            }
            lines = new Line[MOST_LINES];
            for (int i = 0; i < MOST_LINES; i++) {
                lines[i] = new Line();
            }
        }

        /** The outermost list, or null when the text is no formula. */
        Line read(char[] characters, int count) {
            text = characters;
            length = Math.min(count, characters.length);
            at = 0;
            nucleusCount = 0;
            lineCount = 0;
            Line outermost = readLine(0);
            return outermost != null && at >= length ? outermost : null;
        }

        /** The list that ends where none of its items can begin, or null when an item is wrong. */
        private Line readLine(int depth) {
            Line line = freshLine();
            if (line == null) {
                return null;
            }
            Nucleus last = null;
            for (int i = 0; i <= MOST_NUCLEI && !isLineEnd(); i++) {
                Nucleus item = readNucleus(depth);
                if (item == null || !readScripts(item, depth)) {
                    return null;
                }
                if (last == null) {
                    line.first = item;
                } else {
                    last.next = item;
                }
                last = item;
            }
            line.settleAtoms();
            return line;
        }

        private boolean isLineEnd() {
            char c = peek();
            return c == TEXT_END || c == '}' || c == '&' || seesRowEnd() || seesCommand("right");
        }

        /** Whether what stands behind a nucleus are right scripts; a third one is left to the list to refuse. */
        private boolean readScripts(Nucleus item, int depth) {
            for (int i = 0; i < 2; i++) {
                boolean above = take('^');
                if (!above && !take('_')) {
                    return true;
                }
                if ((above ? item.upper : item.lower) != null) {
                    return false;
                }
                Nucleus script = readNucleus(depth + 1);
                if (script == null) {
                    return false;
                }
                if (above) {
                    item.upper = script;
                } else {
                    item.lower = script;
                }
            }
            return true;
        }

        private Nucleus readNucleus(int depth) {
            if (depth > DEEPEST) {
                return null;
            }
            Nucleus nucleus = freshNucleus();
            if (nucleus == null || !readHead(nucleus) || !readParts(nucleus, depth)) {
                return null;
            }
            return nucleus;
        }

        /** Reads the character, the brace or the command that tells the kind. */
        private boolean readHead(Nucleus nucleus) {
            char c = peek();
            if (c == '\\') {
                nucleus.kind = takeCommand();
            } else {
                nucleus.kind = c == '{' ? Kind.GROUP : Kind.CHARACTER;
                nucleus.code = c;
                at++;
            }
            if (nucleus.kind == null) {
                return false;
            }
            if (nucleus.kind == Kind.CHARACTER) {
                nucleus.atom = Atom.ofCharacter(c);
            } else {
                nucleus.atom = nucleus.kind.atom();
                nucleus.code = nucleus.kind.operator;
            }
            return nucleus.atom != null;
        }

        private boolean readParts(Nucleus nucleus, int depth) {
            switch (nucleus.kind) {
                case GROUP:
                    nucleus.inside = readLine(depth + 1);
                    return nucleus.inside != null && take('}');
                case FRAC:
                    nucleus.first = readNucleus(depth + 1);
                    if (nucleus.first == null) {
                        return false;
                    }
                    nucleus.second = readNucleus(depth + 1);
                    return nucleus.second != null;
                case SQRT:
                case HAT:
                case BAR:
                    nucleus.first = readNucleus(depth + 1);
                    return nucleus.first != null;
                case LEFT:
                    return readSides(nucleus, depth);
                case MAT:
                    return readCells(nucleus, depth);
                default:
                    return true;
            }
        }

        private boolean readSides(Nucleus nucleus, int depth) {
            nucleus.code = takeSide();
            if (nucleus.code == TEXT_END) {
                return false;
            }
            nucleus.inside = readLine(depth + 1);
            if (nucleus.inside == null || !seesCommand("right")) {
                return false;
            }
            at += "right".length() + 1;
            nucleus.rightCode = takeSide();
            return nucleus.rightCode != TEXT_END;
        }

        private boolean readCells(Nucleus nucleus, int depth) {
            if (!take('{')) {
                return false;
            }
            int row = 0;
            int column = 0;
            Line last = null;
            for (int i = 0; i < MOST_LINES && row < MOST_ROWS && column < MOST_COLUMNS; i++) {
                Line cell = readLine(depth + 1);
                if (cell == null) {
                    return false;
                }
                cell.row = row;
                cell.column = column;
                if (last == null) {
                    nucleus.inside = cell;
                } else {
                    last.next = cell;
                }
                last = cell;
                if (take('}')) {
                    return true;
                }
                if (take('&')) {
                    column++;
                } else if (seesRowEnd()) {
                    at += 2;
                    row++;
                    column = 0;
                } else {
                    return false;
                }
            }
            return false;
        }

        private Nucleus freshNucleus() {
            if (nucleusCount >= MOST_NUCLEI) {
                return null;
            }
            Nucleus nucleus = nuclei[nucleusCount];
            nucleusCount++;
            nucleus.clear();
            return nucleus;
        }

        private Line freshLine() {
            if (lineCount >= MOST_LINES) {
                return null;
            }
            Line line = lines[lineCount];
            lineCount++;
            line.clear();
            return line;
        }

        /** The next character that is no blank. */
        private char peek() {
            while (at < length && text[at] == ' ') {
                at++;
            }
            return at < length ? text[at] : TEXT_END;
        }

        private boolean take(char c) {
            if (peek() != c) {
                return false;
            }
            at++;
            return true;
        }

        /** The side that stands next, or TEXT_END when there stands none. */
        private char takeSide() {
            char c = peek();
            if ("()[]|.".indexOf(c) < 0) {
                return TEXT_END;
            }
            at++;
            return c;
        }

        private boolean seesRowEnd() {
            return peek() == '\\' && at + 1 < length && text[at + 1] == '\\';
        }

        /** The kind whose command stands next, or null when there is no such command. */
        private Kind takeCommand() {
            for (int i = 0; i < KINDS.length; i++) {
                Kind kind = KINDS[i];
                if (!kind.command.isEmpty() && seesCommand(kind.command)) {
                    at += kind.command.length() + 1;
                    return kind;
                }
            }
            return null;
        }

        private boolean seesCommand(String command) {
            if (peek() != '\\') {
                return false;
            }
            int end = at + 1 + command.length();
            if (end > length) {
                return false;
            }
            for (int i = 0; i < command.length(); i++) {
                if (text[at + 1 + i] != command.charAt(i)) {
                    return false;
                }
            }
            return end == length || !Atom.isLetter(text[end]);
        }
    }

    /** The pieces of what is set, in their order. */
    private static final class Sheet {
        final int[] facts;
        int count;

        Sheet() {
            facts = new int[MOST_PIECES * FACTS];
        }

        void clear() {
            count = 0;
        }

        /** The place of the next piece, whose facts may be known only when later pieces stand. */
        int reserve() {
            int place = count;
            if (count < MOST_PIECES) {
                count++;
            }
            return place;
        }

        void put(int place, int kind, int code, int x, int y, int size, int w) {
            if (place < 0 || place >= MOST_PIECES) {
                return;
            }
            int start = place * FACTS;
            facts[start] = kind;
            facts[start + 1] = code;
            facts[start + 2] = x;
            facts[start + 3] = y;
            facts[start + 4] = size;
            facts[start + 5] = w;
        }

        void move(Box box, int right, int up) {
            for (int i = Math.max(box.from, 0); i < box.end && i < MOST_PIECES; i++) {
                facts[i * FACTS + 2] += right;
                facts[i * FACTS + 3] += up;
            }
        }
    }

    /** The measures of a matrix whose cells have been set; one serves all, for no cell is set meanwhile. */
    private static final class Grid {
        private final int[] columnWidths;
        private final int[] rowHeights;
        private final int[] rowDepths;
        private int rows;
        private int columns;

        Grid() {
            columnWidths = new int[MOST_COLUMNS];
            rowHeights = new int[MOST_ROWS];
            rowDepths = new int[MOST_ROWS];
        }

        void measure(Line firstCell, int size) {
            Arrays.fill(columnWidths, 0);
            Arrays.fill(rowHeights, 5 * size);
            Arrays.fill(rowDepths, 2 * size);
            rows = 0;
            columns = 0;
            for (Line cell = firstCell; cell != null; cell = cell.next) {
                int row = rowOf(cell);
                int column = columnOf(cell);
                columnWidths[column] = Math.max(columnWidths[column], cell.w);
                rowHeights[row] = Math.max(rowHeights[row], cell.h);
                rowDepths[row] = Math.max(rowDepths[row], cell.d);
                rows = Math.max(rows, row + 1);
                columns = Math.max(columns, column + 1);
            }
        }

        /** How far from the left side a column begins; the one behind the last would begin behind a gap. */
        int leftOf(int column, int size) {
            int x = 0;
            for (int i = 0; i < column && i < MOST_COLUMNS; i++) {
                x += columnWidths[i] + 4 * size;
            }
            return x;
        }

        /** How far below the top a row begins; the one behind the last would begin behind a gap. */
        int topOf(int row, int size) {
            int y = 0;
            for (int i = 0; i < row && i < MOST_ROWS; i++) {
                y += rowHeights[i] + rowDepths[i] + size;
            }
            return y;
        }

        int wholeWidth(int size) {
            return leftOf(columns, size) - 4 * size;
        }

        int wholeHeight(int size) {
            return topOf(rows, size) - size;
        }

        int xOf(Line cell, int size) {
            int column = columnOf(cell);
            return leftOf(column, size) + (columnWidths[column] - cell.w) / 2;
        }

        /** How far below the top a cell's base line is. */
        int baseOf(Line cell, int size) {
            int row = rowOf(cell);
            return topOf(row, size) + rowHeights[row];
        }

        private static int rowOf(Line cell) {
            return Math.max(0, Math.min(cell.row, MOST_ROWS - 1));
        }

        private static int columnOf(Line cell) {
            return Math.max(0, Math.min(cell.column, MOST_COLUMNS - 1));
        }
    }

    /**
     * Sets the parts of a tree. Each part is set as if it began at 0, 0; what it is in then moves its
     * pieces. The Reader has refused what is too deep, so the recursion ends early.
     */
    private static final class Typesetter {
        final Sheet sheet;
        private final Grid grid;

        Typesetter() {
            sheet = new Sheet();
            grid = new Grid();
        }

        void setAll(Line outermost, Style style) {
            sheet.clear();
            setLine(outermost, style, false);
        }

        private void setLine(Line line, Style style, boolean cramped) {
            line.from = sheet.count;
            line.measure(0, 0, 0);
            Nucleus before = null;
            for (Nucleus item = line.first; item != null; item = item.next) {
                setItem(item, style, cramped);
                int space = before == null ? 0 : style.spaceBetween(before.atom, item.atom);
                int x = line.w + space;
                sheet.move(item, x, 0);
                line.measure(x + item.w, Math.max(line.h, item.h), Math.max(line.d, item.d));
                before = item;
            }
            line.end = sheet.count;
        }

        private void setItem(Nucleus item, Style style, boolean cramped) {
            setNucleus(item, style, cramped);
            if (item.upper == null && item.lower == null) {
                return;
            }
            if (item.upper != null) {
                setNucleus(item.upper, style.forScripts(), cramped);
            }
            if (item.lower != null) {
                setNucleus(item.lower, style.forScripts(), true);
            }
            if (style == Style.DISPLAY && item.kind.takesLimits()) {
                placeLimits(item, style);
            } else {
                placeScripts(item, style, cramped);
            }
            item.end = sheet.count;
        }

        private void placeLimits(Nucleus item, Style style) {
            Nucleus upper = item.upper;
            Nucleus lower = item.lower;
            int gap = 2 * style.thickness;
            int w = item.w;
            int h = item.h;
            int d = item.d;
            if (upper != null) {
                w = Math.max(w, upper.w);
            }
            if (lower != null) {
                w = Math.max(w, lower.w);
            }
            sheet.move(item, (w - item.w) / 2, 0);
            if (upper != null) {
                int up = item.h + gap + upper.d;
                sheet.move(upper, (w - upper.w) / 2, up);
                h = up + upper.h;
            }
            if (lower != null) {
                int down = item.d + gap + lower.h;
                sheet.move(lower, (w - lower.w) / 2, -down);
                d = down + lower.d;
            }
            item.measure(w, h, d);
        }

        private void placeScripts(Nucleus item, Style style, boolean cramped) {
            Nucleus upper = item.upper;
            Nucleus lower = item.lower;
            int w = item.w;
            int h = item.h;
            int d = item.d;
            int up = upper == null ? 0 : raiseOf(upper, item, style, cramped);
            if (upper != null) {
                sheet.move(upper, item.w, up);
                w = Math.max(w, item.w + upper.w);
                h = Math.max(h, up + upper.h);
            }
            if (lower != null) {
                int down = dropOf(lower, item, style);
                if (upper != null) {
                    int gap = up - upper.d - (lower.h - down);
                    down += Math.max(0, 4 * style.thickness - gap);
                }
                int x = item.kind == Kind.INT ? item.w - style.size : item.w;
                sheet.move(lower, x, -down);
                w = Math.max(w, x + lower.w);
                d = Math.max(d, down + lower.d);
            }
            item.measure(w + style.size / 2, h, d);
        }

        private static int raiseOf(Nucleus upper, Nucleus item, Style style, boolean cramped) {
            int least = (cramped ? 3 : 4) * style.size;
            return Math.max(least, Math.max(item.h - 2 * style.size, upper.d + style.size));
        }

        private static int dropOf(Nucleus lower, Nucleus item, Style style) {
            int least = 2 * style.size;
            return Math.max(least, Math.max(item.d + style.size / 2, lower.h - 4 * style.size));
        }

        private void setNucleus(Nucleus nucleus, Style style, boolean cramped) {
            nucleus.from = sheet.count;
            switch (nucleus.kind) {
                case CHARACTER:
                    setCharacter(nucleus, style);
                    break;
                case GROUP:
                    setGroup(nucleus, nucleus.inside, style, cramped);
                    break;
                case SUM:
                case PROD:
                case INT:
                    setOperator(nucleus, style);
                    break;
                case FRAC:
                    setFraction(nucleus, nucleus.first, nucleus.second, style, cramped);
                    break;
                case SQRT:
                    setRoot(nucleus, nucleus.first, style);
                    break;
                case HAT:
                    setHat(nucleus, nucleus.first, style);
                    break;
                case BAR:
                    setBar(nucleus, nucleus.first, style);
                    break;
                case LEFT:
                    setSides(nucleus, nucleus.inside, style, cramped);
                    break;
                default:
                    setMatrix(nucleus, nucleus.inside, style, cramped);
                    break;
            }
            nucleus.end = sheet.count;
        }

        private void setCharacter(Nucleus nucleus, Style style) {
            int code = nucleus.code;
            int size = style.size;
            addSign(code, size, 0, 0);
            nucleus.measure(signWidth(code, size), signHeight(code, size), signDepth(code, size));
        }

        private void setGroup(Nucleus nucleus, Line inside, Style style, boolean cramped) {
            if (inside == null) {
                return;
            }
            setLine(inside, style, cramped);
            nucleus.measure(inside.w, inside.h, inside.d);
        }

        private void setOperator(Nucleus nucleus, Style style) {
            int code = nucleus.code;
            int size = style == Style.DISPLAY ? BIG_OPERATOR_SIZE : style.size;
            int h = signHeight(code, size);
            int d = signDepth(code, size);
            int y = style.axis - (h - d) / 2;
            addSign(code, size, 0, y);
            nucleus.measure(signWidth(code, size), Math.max(0, h + y), Math.max(0, d - y));
        }

        private void setFraction(Nucleus nucleus, Nucleus above, Nucleus below, Style style, boolean cramped) {
            if (above == null || below == null) {
                return;
            }
            setNucleus(above, style.forParts(), cramped);
            int rule = sheet.reserve();
            setNucleus(below, style.forParts(), true);
            boolean wide = style == Style.DISPLAY;
            int t = style.thickness;
            int ruleY = style.axis - t / 2;
            int clearance = wide ? 3 * t : t;
            int least = (wide ? 7 : 4) * style.size;
            int up = Math.max(least, ruleY + t + clearance + above.d);
            int down = Math.max(least, below.h + clearance - ruleY);
            int w = 2 * t + Math.max(above.w, below.w);
            sheet.move(above, (w - above.w) / 2, up);
            sheet.move(below, (w - below.w) / 2, -down);
            sheet.put(rule, RULE, 0, 0, ruleY, t, w);
            nucleus.measure(w, up + above.h, down + below.d);
        }

        private void setRoot(Nucleus nucleus, Nucleus under, Style style) {
            if (under == null) {
                return;
            }
            int sign = sheet.reserve();
            int rule = sheet.reserve();
            setNucleus(under, style, true);
            int t = style.thickness;
            int signW = 5 * style.size;
            int ruleY = under.h + t + (style == Style.DISPLAY ? style.size : t);
            int top = ruleY + t;
            int tall = style.tallFor(top + under.d);
            sheet.put(sign, TALL_SIGN, ROOT_CODE, 0, top - tall, tall, signW);
            sheet.put(rule, RULE, 0, signW, ruleY, t, under.w);
            sheet.move(under, signW, 0);
            nucleus.measure(signW + under.w, top, Math.max(under.d, tall - top));
        }

        private void setHat(Nucleus nucleus, Nucleus under, Style style) {
            if (under == null) {
                return;
            }
            setNucleus(under, style, true);
            int size = style.size;
            int x = (under.w - signWidth(HAT_CODE, size)) / 2;
            int y = Math.max(0, under.h - 5 * size);
            addSign(HAT_CODE, size, x, y);
            nucleus.measure(under.w, Math.max(under.h, y + signHeight(HAT_CODE, size)), under.d);
        }

        private void setBar(Nucleus nucleus, Nucleus under, Style style) {
            if (under == null) {
                return;
            }
            setNucleus(under, style, true);
            int t = style.thickness;
            sheet.put(sheet.reserve(), RULE, 0, 0, under.h + t, t, under.w);
            nucleus.measure(under.w, under.h + 3 * t, under.d);
        }

        private void setSides(Nucleus nucleus, Line inside, Style style, boolean cramped) {
            if (inside == null) {
                return;
            }
            boolean hasLeft = nucleus.code != NO_SIDE;
            boolean hasRight = nucleus.rightCode != NO_SIDE;
            int left = hasLeft ? sheet.reserve() : NONE;
            setLine(inside, style, cramped);
            int right = hasRight ? sheet.reserve() : NONE;
            int axis = style.axis;
            int signW = 4 * style.size;
            int half = Math.max(4 * style.size, Math.max(inside.h - axis, inside.d + axis));
            int tall = style.tallFor(2 * half);
            int bottom = axis - tall / 2;
            int x = hasLeft ? signW : 0;
            int behind = x + inside.w;
            sheet.put(left, TALL_SIGN, nucleus.code, 0, bottom, tall, signW);
            sheet.move(inside, x, 0);
            sheet.put(right, TALL_SIGN, nucleus.rightCode, behind, bottom, tall, signW);
            nucleus.measure(hasRight ? behind + signW : behind, inside.h, inside.d);
            if (hasLeft || hasRight) {
                nucleus.h = Math.max(nucleus.h, axis + tall / 2);
                nucleus.d = Math.max(nucleus.d, tall / 2 - axis);
            }
        }

        private void setMatrix(Nucleus nucleus, Line firstCell, Style style, boolean cramped) {
            for (Line cell = firstCell; cell != null; cell = cell.next) {
                setLine(cell, style.forCells(), cramped);
            }
            int size = style.size;
            grid.measure(firstCell, size);
            int whole = grid.wholeHeight(size);
            int top = style.axis + whole / 2;
            for (Line cell = firstCell; cell != null; cell = cell.next) {
                sheet.move(cell, grid.xOf(cell, size), top - grid.baseOf(cell, size));
            }
            nucleus.measure(grid.wholeWidth(size), top, Math.max(0, whole - top));
        }

        private void addSign(int code, int size, int x, int y) {
            sheet.put(sheet.reserve(), SIGN, code, x, y, size, signWidth(code, size));
        }

        private static int signWidth(int code, int size) {
            return size * (4 + code % 5);
        }

        private static int signHeight(int code, int size) {
            return size * (5 + code % 3);
        }

        private static int signDepth(int code, int size) {
            return code % 4 == 1 ? 2 * size : 0;
        }
    }
}
