import java.util.Arrays;

/** Promises 16, 17 and 18: read, fault, sign. */
public final class ReadTest {
    private static final Due due = new Due("ReadTest");
    private static final int ABSENT = -1;

    public static void main(String[] args) {
        none();
        plain();
        noSuchCell();
        capital();
        capitals();
        figures();
        lettersPlace();
        lettersBehind();
        wrongPlace();
        theFirstFault();
        theEnd();
        signs();
        most();
        live();
        due.close();
    }

    /** Cell 30 stands for ab, 31 for the, 59 for zzzz; no others do. */
    private static Dots withRules(int... cells) {
        return new Dots().withRule("ab", 30, 1).withRule("the", 31, 0).withRule("zzzz", 59, 4).felt(cells);
    }

    private static boolean isRule(int cell) {
        return cell == 30 || cell == 31 || cell == 59;
    }

    private static boolean isNone(int cell) {
        return cell == 63 || (cell >= 30 && cell <= 59 && !isRule(cell));
    }

    private static void reads(String want, int... cells) {
        Dots x = withRules(cells);
        String name = Arrays.toString(cells);
        due.is("read() of " + name, x.read(), want.length());
        due.is("fault() of " + name, x.fault(), RaisedDots.NONE);
        due.is("the signs of " + name, x.signs(), want);
        due.is("one beyond the signs of " + name, x.sign(want.length()), RaisedDots.NONE);
        due.is("the cells stay: " + name, x.told(9), cells.length);
    }

    private static void fails(int fault, int at, int... cells) {
        Dots x = withRules(cells);
        String name = Arrays.toString(cells);
        due.is("read() of " + name, x.read(), -10 - fault);
        due.is("fault() of " + name, x.fault(), at);
        due.is("sign(0) of " + name, x.sign(0), RaisedDots.NONE);
        due.is("the cells stay: " + name, x.told(9), cells.length);
    }

    /** The row with another cell behind it, or without one. */
    private static int[] with(int[] row, int cell) {
        if (cell == ABSENT) {
            return row;
        }
        int[] longer = Arrays.copyOf(row, row.length + 1);
        longer[row.length] = cell;
        return longer;
    }

    private static void none() {
        due.says("READ BACK (the CELLS stay): how many SIGNS; -10 less the number of the FAULT.");
        Dots x = new Dots();
        due.is("read() of none", x.read(), 0);
        due.is("fault() of none", x.fault(), RaisedDots.NONE);
        due.is("sign(0) of none", x.sign(0), RaisedDots.NONE);
        due.is("sign(-1) of none", x.sign(-1), RaisedDots.OUTSIDE);
        reads("");
    }

    private static void plain() {
        due.says("READ BACK, CELL by CELL: letters; blanks; point, comma, stroke; RULES: their letters");
        for (int cell = 1; cell <= 26; cell++) {
            reads(Character.toString(96 + cell), cell);
        }
        reads(" ", 0);
        reads(".", 27);
        reads(",", 28);
        reads("-", 29);
        reads("  a", 0, 0, 1);
        reads("ab", 30);
        reads("xabx", 24, 30, 24);
        reads("thezzzz", 31, 59);
        reads("the. -", 31, 27, 0, 29);
    }

    private static void noSuchCell() {
        due.says("1 a CELL that is none (63, one of 30 .. 59 without a RULE).");
        for (int cell = 30; cell <= 63; cell++) {
            if (isNone(cell)) {
                fails(1, 0, cell);
                fails(1, 1, 1, cell);
                fails(1, 2, 1, 30, cell, 2);
                fails(1, 3, 60, 60, 1, cell);
                fails(1, 2, 61, 1, cell);
                fails(1, 3, 61, 1, 27, cell);
            }
        }
    }

    /** What may be behind one CAPITAL, for each cell and the end. */
    private static void capital() {
        due.says("CAPITAL: the next CELL must be a letter, which is a CAPITAL then, or CAPITAL again");
        int[][] ahead = {{}, {1}, {0}, {30}, {61, 1}};
        String[] signs = {"", "a", " ", "ab", "1"};
        for (int i = 0; i < ahead.length; i++) {
            int[] row = with(ahead[i], 60);
            for (int cell = ABSENT; cell <= 63; cell++) {
                if (cell >= 1 && cell <= 26) {
                    reads(signs[i] + (char) (64 + cell), with(row, cell));
                } else {
                    // behind CAPITAL twice there is the end, one further
                    fails(isNone(cell) ? 1 : 2, row.length + (cell == 60 ? 1 : 0), with(row, cell));
                }
            }
        }
        reads("Ab", 60, 1, 2);
        reads("AB", 60, 1, 60, 2);
        reads("Aab", 60, 1, 30);
        fails(2, 1, 60, 61, 1);
        fails(2, 1, 60, 62, 1);
        fails(2, 1, 60, 30, 1);
    }

    /** What may be behind two, for each cell and the end. */
    private static void capitals() {
        due.says("then letters and RULES are CAPITALS as long as they stand side by side (one at least)");
        for (int cell = ABSENT; cell <= 63; cell++) {
            int[] row = with(new int[] {60, 60}, cell);
            if (cell >= 1 && cell <= 26) {
                reads(Character.toString(64 + cell), row);
            } else if (isRule(cell)) {
                reads(cell == 30 ? "AB" : cell == 31 ? "THE" : "ZZZZ", row);
            } else {
                fails(isNone(cell) ? 1 : 2, 2, row);
            }
        }
        reads("ABC", 60, 60, 1, 2, 3);
        reads("ABTHEA", 60, 60, 30, 31, 1);
        reads("AB c", 60, 60, 1, 2, 0, 3);
        reads("AB-c", 60, 60, 1, 2, 29, 3);
        reads("AB.ab", 60, 60, 1, 2, 27, 30);
        reads("AB1", 60, 60, 1, 2, 61, 1);
        reads("ABc", 60, 60, 1, 60, 2, 3);
        reads("ABC", 60, 60, 1, 60, 60, 2, 3);
        fails(2, 2, 60, 60, 60, 1);
        fails(2, 3, 60, 60, 1, 62, 1);
    }

    /** What may be behind FIGURES, for each cell and the end. */
    private static void figures() {
        due.says("FIGURES: the next must be one of CELLS 1 .. 10; these are figures as long as they come, and a 27 or 28 with one of 1 .. 10 just behind it goes on");
        for (int cell = ABSENT; cell <= 63; cell++) {
            int[] row = with(new int[] {61}, cell);
            if (cell >= 1 && cell <= 10) {
                reads(Integer.toString(cell % 10), row);
            } else {
                fails(isNone(cell) ? 1 : 2, 1, row);
            }
        }
        reads("1234567890", 61, 1, 2, 3, 4, 5, 6, 7, 8, 9, 10);
        reads("1.5", 61, 1, 27, 5);
        reads("1,0", 61, 1, 28, 10);
        reads("1.5,6", 61, 1, 27, 5, 28, 6);
        reads("1.", 61, 1, 27);
        reads("1,", 61, 1, 28);
        reads("1..a", 61, 1, 27, 27, 1);
        reads("1.,j", 61, 1, 27, 28, 10);
        reads("1.k", 61, 1, 27, 11);
        reads("1.ka", 61, 1, 27, 11, 1);
        reads("1k", 61, 1, 11);
        reads("1ka", 61, 1, 11, 1);
        reads("1-a", 61, 1, 29, 1);
        reads("1 a", 61, 1, 0, 1);
        reads("1aba", 61, 1, 30, 1);
        reads("1.ab", 61, 1, 27, 30);
        reads("12", 61, 1, 61, 2);
        reads("1.2", 61, 1, 27, 61, 2);
        reads("1A", 61, 1, 60, 1);
        reads("1.A", 61, 1, 27, 60, 1);
        reads("1AB", 61, 1, 60, 60, 1, 2);
    }

    private static void lettersPlace() {
        due.says("LETTERS: just behind figures, or one point or comma behind them");
        int[][] may = {{61, 1}, {61, 10}, {61, 1, 2}, {61, 1, 27}, {61, 1, 28}, {61, 1, 27, 5}, {61, 1, 27, 5, 28}, {1, 61, 1},
            {61, 1, 62, 1, 61, 2}, {60, 60, 1, 61, 1, 28}, {61, 1, 61, 2, 27}};
        String[] signs = {"1", "0", "12", "1.", "1,", "1.5", "1.5,", "a1", "1a2", "A1,", "12."};
        for (int i = 0; i < may.length; i++) {
            reads(signs[i] + "a", with(with(may[i], 62), 1));
            reads(signs[i] + "j", with(with(may[i], 62), 10));
            reads(signs[i] + "ab", with(with(may[i], 62), 30));
            fails(2, may[i].length, with(with(may[i], 62), 11));
        }
        int[][] mayNot = {{}, {1}, {26}, {0}, {27}, {28}, {29}, {30}, {60, 1}, {60, 60, 1}, {61, 1, 27, 27}, {61, 1, 27, 28}, {61, 1, 28, 27},
            {61, 1, 28, 28}, {61, 1, 29}, {61, 1, 0}, {61, 1, 11}, {61, 1, 30}, {61, 1, 27, 11}, {61, 1, 0, 27}, {61, 1, 62, 1},
            {61, 1, 62, 1, 27}, {61, 1, 62, 30}, {61, 1, 60, 1}, {1, 27}, {61, 1, 27, 0}};
        for (int[] row : mayNot) {
            fails(2, row.length, with(row, 62));
            fails(2, row.length, with(with(row, 62), 1));
            fails(2, row.length, with(with(row, 62), 30));
        }
        // behind CAPITAL and FIGURES, where it is what stands behind them
        fails(2, 1, 60, 62, 1);
        fails(2, 2, 60, 60, 62, 1);
        fails(2, 1, 61, 62, 1);
    }

    /** What may be behind LETTERS, for each cell and the end. */
    private static void lettersBehind() {
        due.says("and with one of 1 .. 10, or a RULE's CELL, behind it.");
        int[][] ahead = {{61, 1}, {61, 1, 27}, {61, 1, 28}};
        String[] signs = {"1", "1.", "1,"};
        for (int i = 0; i < ahead.length; i++) {
            int[] row = with(ahead[i], 62);
            for (int cell = ABSENT; cell <= 63; cell++) {
                if (cell >= 1 && cell <= 10) {
                    reads(signs[i] + (char) (96 + cell), with(row, cell));
                } else if (isRule(cell)) {
                    reads(signs[i] + (cell == 30 ? "ab" : cell == 31 ? "the" : "zzzz"), with(row, cell));
                } else {
                    fails(2, row.length - 1, with(row, cell));
                }
            }
        }
        reads("1aa", 61, 1, 62, 1, 1);
        reads("1aak", 61, 1, 62, 1, 1, 11);
        fails(2, 2, 61, 1, 62, 62, 1);
    }

    /** Each way to stand where one cannot: as the first cells, within, at the end. */
    private static void wrongPlace() {
        due.says("2 one that cannot stand there (what stands behind CAPITAL, FIGURES; LETTERS itself, where it must not be, "
            + "or with something else behind it; the end).");
        int[][] wrong = {{60, 0}, {60, 27}, {60, 30}, {60, 61}, {60, 62}, {60, 60, 0}, {60, 60, 29}, {60, 60, 60}, {60, 60, 61}, {60, 60, 62},
            {61, 0}, {61, 11}, {61, 26}, {61, 28}, {61, 30}, {61, 60}, {61, 61}, {61, 62}, {60}, {60, 60}, {61}};
        int[] places = {1, 1, 1, 1, 1, 2, 2, 2, 2, 2, 1, 1, 1, 1, 1, 1, 1, 1, 1, 2, 1};
        int[][] ahead = {{}, {1, 30, 0}, {61, 1, 27}, {60, 60, 1}, {60, 1}, {61, 1, 62, 30}};
        for (int[] row : ahead) {
            for (int i = 0; i < wrong.length; i++) {
                int[] cells = Arrays.copyOf(row, row.length + wrong[i].length);
                System.arraycopy(wrong[i], 0, cells, row.length, wrong[i].length);
                fails(2, row.length + places[i], cells);
                if (row.length + places[i] < cells.length) {
                    fails(2, row.length + places[i], with(cells, 1));
                    fails(2, row.length + places[i], with(cells, 63));
                }
            }
        }
    }

    private static void theFirstFault() {
        due.says("FAULTS, at the first CELL that has one");
        fails(1, 0, 63, 63);
        fails(1, 0, 63, 62);
        fails(2, 0, 62, 63);
        fails(1, 1, 1, 63, 60);
        fails(2, 1, 1, 62, 63);
        fails(1, 0, 40, 60, 60);
        fails(2, 1, 60, 61, 63);
        fails(2, 2, 61, 1, 62, 63);
        fails(2, 2, 61, 1, 62, 40);
        fails(1, 4, 61, 1, 62, 1, 63, 62);
    }

    private static void theEnd() {
        due.says("(the end: how many there are)");
        fails(2, 1, 60);
        fails(2, 2, 60, 60);
        fails(2, 1, 61);
        fails(2, 3, 1, 2, 60);
        fails(2, 4, 1, 2, 60, 60);
        fails(2, 3, 1, 2, 61);
        fails(2, 3, 61, 1, 60);
        fails(2, 3, 61, 1, 61);
        int[] row = new int[240];
        Arrays.fill(row, 1);
        row[239] = 60;
        fails(2, 240, row);
        row[238] = 60;
        fails(2, 240, row);
        row[238] = 1;
        row[239] = 61;
        fails(2, 240, row);
        row[239] = 62;
        fails(2, 239, row);
        row[239] = 63;
        fails(1, 239, row);
    }

    private static void signs() {
        due.says("SIGN i of what is READ BACK; NONE: not so many, a FAULT. OUTSIDE: below 0.");
        Dots x = Due.felt(1, 2, 29);
        due.is("sign(0)", x.sign(0), 97);
        due.is("the last", x.sign(2), 45);
        due.is("one beyond", x.sign(3), RaisedDots.NONE);
        due.is("sign(MAX_VALUE)", x.sign(Integer.MAX_VALUE), RaisedDots.NONE);
        due.is("sign(-1)", x.sign(-1), RaisedDots.OUTSIDE);
        due.is("sign(MIN_VALUE)", x.sign(Integer.MIN_VALUE), RaisedDots.OUTSIDE);
        x.feel(63);
        for (int i = 0; i <= 4; i++) {
            due.is("sign(" + i + ") with a fault", x.sign(i), RaisedDots.NONE);
        }
        due.is("sign(-1) with a fault", x.sign(-1), RaisedDots.OUTSIDE);
        due.is("sign(MAX_VALUE) with a fault", x.sign(Integer.MAX_VALUE), RaisedDots.NONE);
        x.rest();
        due.is("sign(0) without cells", x.sign(0), RaisedDots.NONE);
        due.is("sign(-1) without cells", x.sign(-1), RaisedDots.OUTSIDE);
    }

    private static void most() {
        due.says("how many SIGNS");
        int[] cells = new int[240];
        Arrays.fill(cells, 59);
        Dots x = withRules(cells);
        due.is("240 rules of four letters", x.read(), 960);
        due.is("sign(959)", x.sign(959), 122);
        due.is("sign(960)", x.sign(960), RaisedDots.NONE);
        cells[0] = 60;
        cells[1] = 60;
        Dots y = withRules(cells);
        due.is("238 of them, CAPITALS", y.read(), 952);
        due.is("sign(951)", y.sign(951), 90);
        due.is("sign(952)", y.sign(952), RaisedDots.NONE);
        Arrays.fill(cells, 1);
        cells[0] = 61;
        Dots z = withRules(cells);
        due.is("239 figures", z.read(), 239);
        due.is("sign(238)", z.sign(238), 49);
    }

    /** The answers are of what is to be read now, by the rules that there are now. */
    private static void live() {
        due.says("The CELL of the FAULT; NONE: there is none.");
        Dots x = Due.felt(1, 30);
        due.is("fault() without read()", x.fault(), 1);
        x.withRule("ab", 30, 0);
        due.is("fault() with the rule", x.fault(), RaisedDots.NONE);
        due.is("sign(2) with the rule", x.sign(2), 98);
        x.undo();
        due.is("sign(0) without it", x.sign(0), RaisedDots.NONE);
        due.is("read() without it", x.read(), -11);
        due.is("fault() without it", x.fault(), 1);
        Dots z = Due.felt(60, 1, 61, 1, 62, 1);
        due.is("read()", z.read(), 3);
        z.rest();
        z.feel(60);
        due.is("nothing of what was to be read earlier", z.read(), -12);
        due.is("the end", z.fault(), 1);
        z.rest();
        z.felt(1, 2, 61);
        due.is("nothing of it behind FIGURES", z.fault(), 3);
        for (int place = 0; place <= 6; place++) {
            Dots later = Due.felt(60, 1, 61, 1, 62, 1);
            later.read();
            later.rest();
            for (int i = 0; i < place; i++) {
                later.feel(27);
            }
            later.felt(62, 1);
            due.is("no figures of an earlier reading, LETTERS at " + place, later.fault(), place);
        }
    }
}
