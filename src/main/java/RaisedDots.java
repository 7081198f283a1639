/**
 * Raised dots: a text is put into cells by rules, laid in lines and pages, and cells are read back.
 *
 * <p>Every answer about THE TEXT is worked out anew from the rules and the signs when it is asked
 * for, in rows that the constructor makes once: no call makes an object.
 */
public final class RaisedDots {
    public static final int NONE = -1, UNKNOWN = -1000000001, OUTSIDE = -1000000002, NOT = -1000000003, FULL = -1000000004;

    private static final int MOST_RULES = 12;
    private static final int MOST_SIGNS = 120;
    /** Two for each sign of THE TEXT at most, so all of its cells can also be felt. */
    private static final int MOST_CELLS = 240;
    private static final int MOST_UNDONE = 8;
    private static final int IMAGES = 2;
    private static final int LEAST_LETTERS = 2;
    private static final int MOST_LETTERS = 4;
    private static final int MOST_READ = MOST_CELLS * MOST_LETTERS;
    private static final int CODE_BASE = 27;
    /** 27 to the fourth: the first number that no code of four letters reaches. */
    private static final int CODE_END = 531441;

    private static final int LEAST_WIDTH = 4;
    private static final int MOST_WIDTH = 40;
    private static final int FIRST_WIDTH = 20;
    private static final int LEAST_HEIGHT = 1;
    private static final int MOST_HEIGHT = 20;
    private static final int FIRST_HEIGHT = 5;

    private static final int ANYWHERE = 0;
    private static final int WHOLE = 1;
    private static final int BEGINNING = 2;
    private static final int END = 3;
    private static final int WITHIN = 4;

    private static final int BLANK_SIGN = 32;
    private static final int COMMA_SIGN = 44;
    private static final int STROKE_SIGN = 45;
    private static final int POINT_SIGN = 46;
    private static final int FIGURE_SIGN = 48;
    private static final int CAPITAL_SIGN = 65;
    private static final int LETTER_SIGN = 97;
    private static final int ALPHABET = 26;

    private static final int BLANK_CELL = 0;
    private static final int LAST_FIGURE_CELL = 10;
    private static final int POINT_CELL = 27;
    private static final int COMMA_CELL = 28;
    private static final int STROKE_CELL = 29;
    private static final int FIRST_RULE_CELL = 30;
    private static final int LAST_RULE_CELL = 59;
    private static final int CAPITAL_CELL = 60;
    private static final int FIGURES_CELL = 61;
    private static final int LETTERS_CELL = 62;
    private static final int LAST_CELL = 63;

    private static final int NO_FAULT = 0;
    private static final int NO_SUCH_CELL = 1;
    private static final int WRONG_PLACE = 2;
    private static final int FAULT_BASE = -10;

    private final Book now = new Book();
    private final History history = new History();
    private final Book[] images = new Book[IMAGES];
    private final boolean[] kept = new boolean[IMAGES];
    private final Writer writer = new Writer(now);
    private final Layout layout = new Layout();
    private final int[] felt = new int[MOST_CELLS];
    private int feltCount = 0;
    private final Reader reader = new Reader(now, felt);
    private final Lots lots = new Lots();

    public RaisedDots() {
        for (int i = 0; i < IMAGES; i++) {
            images[i] = new Book();
        }
    }

    // ---- rules

    public int rule(int code, int cell, int kind) {
        if (!isCode(code) || !isRuleCell(cell) || kind < ANYWHERE || kind > WITHIN) {
            return OUTSIDE;
        }
        if (now.isTaken(code, cell)) {
            return NOT;
        }
        if (now.ruleCount >= MOST_RULES) {
            return FULL;
        }
        history.remember(now);
        now.addRule(code, cell, kind);
        return now.ruleCount - 1;
    }

    public int drop(int k) {
        if (!now.hasRule(k)) {
            return UNKNOWN;
        }
        history.remember(now);
        now.removeRule(k);
        return now.ruleCount;
    }

    public int set(int what, int v) {
        if (what == 0) {
            return setWidth(v);
        }
        if (what == 1) {
            return setHeight(v);
        }
        return OUTSIDE;
    }

    public int drift(int n, int seed) {
        if (n < 1 || n > 12 || seed < 1 || seed > 999999) {
            return OUTSIDE;
        }
        history.remember(now);
        int before = now.ruleCount;
        lots.begin(seed);
        for (int i = 0; i < n; i++) {
            addRuleByLots();
        }
        return now.ruleCount - before;
    }

    // ---- the text

    public int text(int sign) {
        if (!isSign(sign)) {
            return OUTSIDE;
        }
        if (now.signCount >= MOST_SIGNS) {
            return FULL;
        }
        history.remember(now);
        now.addSign(sign);
        return now.signCount;
    }

    public int wipe() {
        history.remember(now);
        int had = now.signCount;
        now.signCount = 0;
        return had;
    }

    public int undo() {
        if (history.count == 0) {
            return NOT;
        }
        history.takeBack(now);
        return history.count;
    }

    public int told(int what) {
        switch (what) {
            case 0:
                return now.ruleCount;
            case 1:
                return now.width;
            case 2:
                return now.height;
            case 3:
                return now.signCount;
            case 4:
                return now.wordCount();
            case 5:
                return writer.write(NONE);
            case 6:
                writer.write(NONE);
                return writer.fewest();
            case 7:
                return layLines();
            case 8:
                return pagesOf(layLines());
            case 9:
                return feltCount;
            case 10:
                return history.count;
            default:
                return OUTSIDE;
        }
    }

    public int cell(int i) {
        if (i < 0) {
            return OUTSIDE;
        }
        int count = writer.write(NONE);
        return i < count ? writer.cells[i] : NONE;
    }

    public int line(int line, int i) {
        if (line < 0 || i < 0) {
            return OUTSIDE;
        }
        layLines();
        return layout.cellOf(line, i);
    }

    public int ofRule(int k, int what) {
        if (!now.hasRule(k)) {
            return UNKNOWN;
        }
        switch (what) {
            case 0:
                return now.codes[k];
            case 1:
                return now.ruleCells[k];
            case 2:
                return now.kinds[k];
            case 3:
                writer.write(NONE);
                return writer.served[k];
            case 4:
                return writer.write(k);
            case 5:
                writer.write(NONE);
                return writer.firstServed[k];
            default:
                return OUTSIDE;
        }
    }

    public int by(int cell) {
        return isCell(cell) ? now.ruleOfCell(cell) : OUTSIDE;
    }

    // ---- reading back

    public int feel(int cell) {
        if (!isCell(cell)) {
            return OUTSIDE;
        }
        if (feltCount >= MOST_CELLS) {
            return FULL;
        }
        felt[feltCount] = cell;
        feltCount++;
        return feltCount;
    }

    public int feelAll() {
        feltCount = writer.write(NONE);
        System.arraycopy(writer.cells, 0, felt, 0, feltCount);
        return feltCount;
    }

    public int read() {
        reader.readBack(feltCount);
        return reader.faultKind == NO_FAULT ? reader.count : FAULT_BASE - reader.faultKind;
    }

    public int fault() {
        reader.readBack(feltCount);
        return reader.faultAt;
    }

    public int sign(int i) {
        if (i < 0) {
            return OUTSIDE;
        }
        reader.readBack(feltCount);
        return reader.faultKind == NO_FAULT && i < reader.count ? reader.signs[i] : NONE;
    }

    public int rest() {
        int had = feltCount;
        feltCount = 0;
        return had;
    }

    // ---- images

    public int keep(int i) {
        if (i < 0 || i >= IMAGES) {
            return UNKNOWN;
        }
        images[i].copyFrom(now);
        kept[i] = true;
        history.forget();
        return now.ruleCount;
    }

    public int goBack(int i) {
        if (i < 0 || i >= IMAGES) {
            return UNKNOWN;
        }
        if (!kept[i]) {
            return NOT;
        }
        now.copyFrom(images[i]);
        history.forget();
        return now.ruleCount;
    }

    // ---- what the calls share

    private int setWidth(int v) {
        if (v < LEAST_WIDTH || v > MOST_WIDTH) {
            return OUTSIDE;
        }
        history.remember(now);
        int was = now.width;
        now.width = v;
        return was;
    }

    private int setHeight(int v) {
        if (v < LEAST_HEIGHT || v > MOST_HEIGHT) {
            return OUTSIDE;
        }
        history.remember(now);
        int was = now.height;
        now.height = v;
        return was;
    }

    private void addRuleByLots() {
        int letters = LEAST_LETTERS + lots.next() % 3;
        int code = 0;
        for (int i = 0; i < letters; i++) {
            code = code * CODE_BASE + 1 + lots.next() % 5;
        }
        int cell = FIRST_RULE_CELL + lots.next() % 30;
        int kind = lots.next() % 5;
        if (!now.isTaken(code, cell)) {
            now.addRule(code, cell, kind);
        }
    }

    private int layLines() {
        int count = writer.write(NONE);
        return layout.lay(writer.cells, count, now.width);
    }

    private int pagesOf(int lines) {
        int height = Math.max(LEAST_HEIGHT, now.height);
        return (lines + height - 1) / height;
    }

    // ---- signs, cells and codes

    private static boolean isSmall(int sign) {
        return sign >= LETTER_SIGN && sign < LETTER_SIGN + ALPHABET;
    }

    private static boolean isCapital(int sign) {
        return sign >= CAPITAL_SIGN && sign < CAPITAL_SIGN + ALPHABET;
    }

    private static boolean isOfWord(int sign) {
        return isSmall(sign) || isCapital(sign);
    }

    /** 1 to 26, which is the cell of a letter or CAPITAL, too. */
    private static int letterOf(int sign) {
        return isCapital(sign) ? sign - CAPITAL_SIGN + 1 : sign - LETTER_SIGN + 1;
    }

    private static boolean isFigure(int sign) {
        return sign >= FIGURE_SIGN && sign <= FIGURE_SIGN + 9;
    }

    private static boolean isPointOrComma(int sign) {
        return sign == POINT_SIGN || sign == COMMA_SIGN;
    }

    private static boolean isSign(int sign) {
        return isOfWord(sign) || isFigure(sign) || isPointOrComma(sign)
            || sign == STROKE_SIGN || sign == BLANK_SIGN;
    }

    private static boolean isCell(int cell) {
        return cell >= 0 && cell <= LAST_CELL;
    }

    private static boolean isRuleCell(int cell) {
        return cell >= FIRST_RULE_CELL && cell <= LAST_RULE_CELL;
    }

    private static boolean isLetterCell(int cell) {
        return cell >= 1 && cell <= ALPHABET;
    }

    private static boolean isFigureCell(int cell) {
        return cell >= 1 && cell <= LAST_FIGURE_CELL;
    }

    private static boolean isPointOrCommaCell(int cell) {
        return cell == POINT_CELL || cell == COMMA_CELL;
    }

    private static boolean isCode(int code) {
        if (code < 0 || code >= CODE_END) {
            return false;
        }
        int letters = lettersOf(code);
        int left = code;
        for (int i = 0; i < letters; i++) {
            if (left % CODE_BASE == 0) {
                return false;
            }
            left = left / CODE_BASE;
        }
        return letters >= LEAST_LETTERS;
    }

    private static int lettersOf(int code) {
        int letters = 0;
        int left = code;
        for (int i = 0; i < MOST_LETTERS && left > 0; i++) {
            left = left / CODE_BASE;
            letters++;
        }
        return letters;
    }

    /** The cell of a sign that is neither a letter nor a figure. */
    private static int cellOfMark(int sign) {
        switch (sign) {
            case POINT_SIGN:
                return POINT_CELL;
            case COMMA_SIGN:
                return COMMA_CELL;
            case STROKE_SIGN:
                return STROKE_CELL;
            default:
                return BLANK_CELL;
        }
    }

    private static int cellOfFigure(int sign) {
        return sign == FIGURE_SIGN ? LAST_FIGURE_CELL : sign - FIGURE_SIGN;
    }

    private static int signOfFigureCell(int cell) {
        return cell == LAST_FIGURE_CELL ? FIGURE_SIGN : FIGURE_SIGN + cell;
    }

    private static int signOfMarkCell(int cell) {
        switch (cell) {
            case POINT_CELL:
                return POINT_SIGN;
            case COMMA_CELL:
                return COMMA_SIGN;
            case STROKE_CELL:
                return STROKE_SIGN;
            default:
                return BLANK_SIGN;
        }
    }

    /** What can be undone and kept: RULES, W, P, THE TEXT. */
    private static final class Book {
        final int[] codes = new int[MOST_RULES];
        final int[] ruleCells = new int[MOST_RULES];
        final int[] kinds = new int[MOST_RULES];
        final int[] signs = new int[MOST_SIGNS];
        int ruleCount = 0;
        int signCount = 0;
        int width = FIRST_WIDTH;
        int height = FIRST_HEIGHT;

        void copyFrom(Book other) {
            ruleCount = other.ruleCount;
            signCount = other.signCount;
            width = other.width;
            height = other.height;
            System.arraycopy(other.codes, 0, codes, 0, MOST_RULES);
            System.arraycopy(other.ruleCells, 0, ruleCells, 0, MOST_RULES);
            System.arraycopy(other.kinds, 0, kinds, 0, MOST_RULES);
            System.arraycopy(other.signs, 0, signs, 0, MOST_SIGNS);
        }

        boolean hasRule(int k) {
            return k >= 0 && k < ruleCount;
        }

        int ruleOfCell(int cell) {
            for (int k = 0; k < ruleCount; k++) {
                if (ruleCells[k] == cell) {
                    return k;
                }
            }
            return NONE;
        }

        int ruleOfCode(int code) {
            for (int k = 0; k < ruleCount; k++) {
                if (codes[k] == code) {
                    return k;
                }
            }
            return NONE;
        }

        boolean isTaken(int code, int cell) {
            return ruleOfCode(code) != NONE || ruleOfCell(cell) != NONE;
        }

        void addRule(int code, int cell, int kind) {
            if (ruleCount < MOST_RULES) {
                codes[ruleCount] = code;
                ruleCells[ruleCount] = cell;
                kinds[ruleCount] = kind;
                ruleCount++;
            }
        }

        void removeRule(int k) {
            for (int i = k; i + 1 < ruleCount; i++) {
                codes[i] = codes[i + 1];
                ruleCells[i] = ruleCells[i + 1];
                kinds[i] = kinds[i + 1];
            }
            ruleCount--;
        }

        void addSign(int sign) {
            if (signCount < MOST_SIGNS) {
                signs[signCount] = sign;
                signCount++;
            }
        }

        /** The sign there, or NONE, which is no sign, outside of the text. */
        int signAt(int at) {
            return at >= 0 && at < signCount ? signs[at] : NONE;
        }

        boolean wordBeginsAt(int at) {
            return isOfWord(signAt(at)) && !isOfWord(signAt(at - 1));
        }

        int endOfWord(int begin) {
            for (int at = begin; at < signCount; at++) {
                if (!isOfWord(signAt(at))) {
                    return at;
                }
            }
            return signCount;
        }

        int wordCount() {
            int count = 0;
            for (int at = 0; at < signCount; at++) {
                if (wordBeginsAt(at)) {
                    count++;
                }
            }
            return count;
        }

        /** Figures go on here, and a letter here could be taken for one of them. */
        boolean isBehindFigures(int at) {
            return isFigure(signAt(at - 1))
                || (isPointOrComma(signAt(at - 1)) && isFigure(signAt(at - 2)));
        }
    }

    /** What was so ahead of the latest changes, in a ring, so that the oldest is lost without moving the others. */
    private static final class History {
        final Book[] past = new Book[MOST_UNDONE];
        int next = 0;
        int count = 0;

        History() {
            for (int i = 0; i < MOST_UNDONE; i++) {
                past[i] = new Book();
            }
        }

        void remember(Book book) {
            past[next].copyFrom(book);
            next = (next + 1) % MOST_UNDONE;
            count = Math.min(count + 1, MOST_UNDONE);
        }

        void takeBack(Book book) {
            if (count > 0) {
                next = (next + MOST_UNDONE - 1) % MOST_UNDONE;
                count--;
                book.copyFrom(past[next]);
            }
        }

        void forget() {
            count = 0;
        }
    }

    /** The numbers that a seed gives. */
    private static final class Lots {
        long x = 1;

        void begin(int seed) {
            x = seed;
        }

        int next() {
            x = x * 16807L % 2147483647L;
            return (int) x;
        }
    }

    /** Puts the text of a book into cells. */
    private static final class Writer {
        final int[] cells = new int[MOST_CELLS];
        final int[] served = new int[MOST_RULES];
        final int[] firstServed = new int[MOST_RULES];
        private final Book book;
        private int count = 0;
        private int without = NONE;
        /** How many of the cells stand for the letters of words, CAPITALS of single letters among them. */
        private int wordCells = 0;
        private int wordBegin = 0;
        private int wordEnd = 0;
        private boolean wordIsCapitals = false;
        /** For the signs of the word: 1 to 26 where it is a small letter or counts as one, 0 for a CAPITAL by itself. */
        private final int[] small = new int[MOST_SIGNS];
        private final int[] fewestFrom = new int[MOST_SIGNS + 1];

        Writer(Book book) {
            this.book = book;
        }

        /** How many cells there are; what they are, and which rules served, stands in the rows then. */
        int write(int withoutRule) {
            begin(withoutRule);
            for (int at = 0; at < book.signCount; at++) {
                int sign = book.signAt(at);
                if (book.wordBeginsAt(at)) {
                    enterWord(at);
                    writeWord();
                } else if (isFigure(sign)) {
                    writeFigure(at, sign);
                } else if (!isOfWord(sign)) {
                    addCell(cellOfMark(sign));
                }
            }
            return count;
        }

        /** Only the letters of words have a choice, so the other cells are taken from what was written last. */
        int fewest() {
            int total = count - wordCells;
            for (int at = 0; at < book.signCount; at++) {
                if (book.wordBeginsAt(at)) {
                    enterWord(at);
                    total += fewestOfWord();
                }
            }
            return total;
        }

        private void begin(int withoutRule) {
            without = withoutRule;
            count = 0;
            wordCells = 0;
            for (int k = 0; k < MOST_RULES; k++) {
                served[k] = 0;
                firstServed[k] = NONE;
            }
        }

        private void addCell(int cell) {
            if (count < MOST_CELLS) {
                cells[count] = cell;
                count++;
            }
        }

        private void writeFigure(int at, int sign) {
            if (!book.isBehindFigures(at)) {
                addCell(FIGURES_CELL);
            }
            addCell(cellOfFigure(sign));
        }

        private void enterWord(int at) {
            wordBegin = at;
            wordEnd = book.endOfWord(at);
            wordIsCapitals = wordEnd - wordBegin >= 2;
            for (int i = wordBegin; i < wordEnd; i++) {
                if (!isCapital(book.signAt(i))) {
                    wordIsCapitals = false;
                }
            }
            for (int i = wordBegin; i < wordEnd; i++) {
                int sign = book.signAt(i);
                small[i] = wordIsCapitals || isSmall(sign) ? letterOf(sign) : 0;
            }
        }

        private void writeWord() {
            if (needsLetters()) {
                addCell(LETTERS_CELL);
            }
            if (wordIsCapitals) {
                addCell(CAPITAL_CELL);
                addCell(CAPITAL_CELL);
            }
            int before = count;
            int behind = wordBegin;
            for (int at = wordBegin; at < wordEnd; at++) {
                if (at == behind) {
                    int k = servingRule(at);
                    behind = at + (k == NONE ? writeLetter(at) : writeRule(k, at));
                }
            }
            wordCells += count - before;
        }

        private boolean needsLetters() {
            int sign = book.signAt(wordBegin);
            return sign >= LETTER_SIGN && sign < LETTER_SIGN + LAST_FIGURE_CELL
                && book.isBehindFigures(wordBegin);
        }

        /** How many signs were written, as writeRule says it, too. */
        private int writeLetter(int at) {
            if (small[at] == 0) {
                addCell(CAPITAL_CELL);
            }
            addCell(letterOf(book.signAt(at)));
            return 1;
        }

        private int writeRule(int k, int at) {
            addCell(book.ruleCells[k]);
            if (served[k] == 0) {
                firstServed[k] = at;
            }
            served[k]++;
            return lettersOf(book.codes[k]);
        }

        private int servingRule(int at) {
            for (int letters = MOST_LETTERS; letters >= LEAST_LETTERS; letters--) {
                int k = ruleAt(at, letters);
                if (k != NONE) {
                    return k;
                }
            }
            return NONE;
        }

        /** The rule of so many letters that may be chosen there; no two have the same letters, so it is one at most. */
        private int ruleAt(int at, int letters) {
            if (at + letters > wordEnd) {
                return NONE;
            }
            int code = 0;
            for (int i = at; i < at + letters; i++) {
                if (small[i] == 0) {
                    return NONE;
                }
                code = code * CODE_BASE + small[i];
            }
            int k = book.ruleOfCode(code);
            boolean serves = k != NONE && k != without && mayStand(book.kinds[k], at, at + letters);
            return serves ? k : NONE;
        }

        private boolean mayStand(int kind, int from, int to) {
            boolean ahead = from > wordBegin;
            boolean behind = to < wordEnd;
            switch (kind) {
                case ANYWHERE:
                    return true;
                case WHOLE:
                    return !ahead && !behind;
                case BEGINNING:
                    return !ahead && behind;
                case END:
                    return ahead && !behind;
                default:
                    return ahead && behind;
            }
        }

        private int fewestOfWord() {
            fewestFrom[wordEnd] = 0;
            for (int at = wordEnd - 1; at >= wordBegin; at--) {
                int best = fewestFrom[at + 1] + (small[at] == 0 ? 2 : 1);
                for (int letters = LEAST_LETTERS; letters <= MOST_LETTERS; letters++) {
                    if (ruleAt(at, letters) != NONE) {
                        best = Math.min(best, fewestFrom[at + letters] + 1);
                    }
                }
                fewestFrom[at] = best;
            }
            return fewestFrom[wordBegin];
        }
    }

    /** Lays cells in lines; the lines stand one behind the other in one row. */
    private static final class Layout {
        private final int[] laid = new int[MOST_CELLS];
        private final int[] lineBegin = new int[MOST_CELLS];
        private int lines = 0;
        private int laidCount = 0;
        private int width = FIRST_WIDTH;

        /** How many lines there are then. */
        int lay(int[] cells, int count, int lineWidth) {
            lines = 0;
            laidCount = 0;
            width = lineWidth;
            int pieceBegin = NONE;
            for (int at = 0; at < count; at++) {
                if (cells[at] == BLANK_CELL) {
                    pieceBegin = NONE;
                } else if (pieceBegin == NONE) {
                    pieceBegin = at;
                    layPiece(cells, at, endOfPiece(cells, at, count));
                }
            }
            return lines;
        }

        int cellOf(int line, int i) {
            if (line < 0 || i < 0 || line >= lines) {
                return NONE;
            }
            int end = line + 1 < lines ? lineBegin[line + 1] : laidCount;
            return i < end - lineBegin[line] ? laid[lineBegin[line] + i] : NONE;
        }

        private static int endOfPiece(int[] cells, int begin, int count) {
            for (int at = begin; at < count; at++) {
                if (cells[at] == BLANK_CELL) {
                    return at;
                }
            }
            return count;
        }

        /** A piece longer than a line has no room on any line, so it begins a new one, and fills as many as it needs. */
        private void layPiece(int[] cells, int begin, int end) {
            if (lines > 0 && lengthOfLast() + 1 + end - begin <= width) {
                addLaid(BLANK_CELL);
            } else {
                beginLine();
            }
            for (int at = begin; at < end; at++) {
                if (lengthOfLast() >= width) {
                    beginLine();
                }
                addLaid(cells[at]);
            }
        }

        private int lengthOfLast() {
            return lines > 0 ? laidCount - lineBegin[lines - 1] : 0;
        }

        private void beginLine() {
            if (lines < MOST_CELLS) {
                lineBegin[lines] = laidCount;
                lines++;
            }
        }

        private void addLaid(int cell) {
            if (laidCount < MOST_CELLS) {
                laid[laidCount] = cell;
                laidCount++;
            }
        }
    }

    /** Reads cells back into signs, up to the first that has a fault. */
    private static final class Reader {
        final int[] signs = new int[MOST_READ];
        int count = 0;
        int faultKind = NO_FAULT;
        int faultAt = NONE;
        private final Book book;
        private final int[] cells;
        private int cellCount = 0;
        /** The place just behind the latest figures, or NONE. */
        private int figuresEnd = NONE;

        Reader(Book book, int[] cells) {
            this.book = book;
            this.cells = cells;
        }

        void readBack(int howMany) {
            cellCount = Math.min(howMany, cells.length);
            count = 0;
            faultKind = NO_FAULT;
            faultAt = NONE;
            figuresEnd = NONE;
            int behind = 0;
            for (int at = 0; at < cellCount && faultKind == NO_FAULT; at++) {
                if (at == behind) {
                    behind = readAt(at);
                }
            }
        }

        /** The place behind what was read; without a meaning where there is a fault. */
        private int readAt(int at) {
            int cell = cellAt(at);
            switch (cell) {
                case CAPITAL_CELL:
                    return cellAt(at + 1) == CAPITAL_CELL ? readCapitals(at + 2) : readCapital(at + 1);
                case FIGURES_CELL:
                    return readFigures(at + 1);
                case LETTERS_CELL:
                    checkLetters(at);
                    return at + 1;
                default:
                    readPlain(at, cell);
                    return at + 1;
            }
        }

        /** The cell there, or NONE, which is no cell, outside of them. */
        private int cellAt(int at) {
            return at >= 0 && at < cellCount ? cells[at] : NONE;
        }

        private boolean isRule(int cell) {
            return isRuleCell(cell) && book.ruleOfCell(cell) != NONE;
        }

        private boolean isNoSuchCell(int cell) {
            return cell == LAST_CELL || (isRuleCell(cell) && book.ruleOfCell(cell) == NONE);
        }

        private void addSign(int sign) {
            if (count < MOST_READ) {
                signs[count] = sign;
                count++;
            }
        }

        private void failAt(int at, int kind) {
            faultKind = kind;
            faultAt = at;
        }

        /** A cell that is none at all is that wherever it stands, also where another one would be wrong. */
        private void failWrongAt(int at) {
            failAt(at, isNoSuchCell(cellAt(at)) ? NO_SUCH_CELL : WRONG_PLACE);
        }

        private void readPlain(int at, int cell) {
            if (isNoSuchCell(cell)) {
                failAt(at, NO_SUCH_CELL);
            } else if (isLetterCell(cell) || isRuleCell(cell)) {
                addLetters(cell, LETTER_SIGN);
            } else {
                addSign(signOfMarkCell(cell));
            }
        }

        /** The letters of a letter's or a rule's cell, small or CAPITALS as the alphabet's first sign tells. */
        private void addLetters(int cell, int alphabet) {
            if (isLetterCell(cell)) {
                addSign(alphabet + cell - 1);
                return;
            }
            int k = book.ruleOfCell(cell);
            if (k == NONE) {
                return;
            }
            int code = book.codes[k];
            int letters = lettersOf(code);
            int unit = 1;
            for (int i = 1; i < letters; i++) {
                unit = unit * CODE_BASE;
            }
            for (int i = 0; i < letters && unit > 0; i++) {
                addSign(alphabet + code / unit % CODE_BASE - 1);
                unit = unit / CODE_BASE;
            }
        }

        private int readCapital(int at) {
            int cell = cellAt(at);
            if (isLetterCell(cell)) {
                addLetters(cell, CAPITAL_SIGN);
            } else {
                failWrongAt(at);
            }
            return at + 1;
        }

        private int readCapitals(int begin) {
            for (int at = begin; at <= cellCount; at++) {
                int cell = cellAt(at);
                if (isLetterCell(cell) || isRule(cell)) {
                    addLetters(cell, CAPITAL_SIGN);
                } else {
                    if (at == begin) {
                        failWrongAt(at);
                    }
                    return at;
                }
            }
            return cellCount;
        }

        private int readFigures(int begin) {
            if (!isFigureCell(cellAt(begin))) {
                failWrongAt(begin);
                return begin;
            }
            for (int at = begin; at < cellCount; at++) {
                int cell = cellAt(at);
                if (isFigureCell(cell)) {
                    addSign(signOfFigureCell(cell));
                    figuresEnd = at + 1;
                } else if (isPointOrCommaCell(cell) && isFigureCell(cellAt(at + 1))) {
                    addSign(signOfMarkCell(cell));
                } else {
                    break;
                }
            }
            return figuresEnd;
        }

        private void checkLetters(int at) {
            int next = cellAt(at + 1);
            if (!isBehindFigures(at) || !(isFigureCell(next) || isRule(next))) {
                failAt(at, WRONG_PLACE);
            }
        }

        private boolean isBehindFigures(int at) {
            if (figuresEnd == NONE) {
                return false;
            }
            return at == figuresEnd || (at == figuresEnd + 1 && isPointOrCommaCell(cellAt(at - 1)));
        }
    }
}
