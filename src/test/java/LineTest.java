/** Promise 11: line, and how CELLS are LAID in lines. */
public final class LineTest {
    private static final Due due = new Due("LineTest");

    public static void main(String[] args) {
        below();
        lastAndBeyond();
        onePiece();
        ifThereIsRoom();
        longPieces();
        behindTheRest();
        blanks();
        cellsNotSigns();
        eachWidth();
        most();
        due.close();
    }

    private static void laid(String text, int width, String want) {
        Dots x = Due.typed(text);
        x.set(0, width);
        due.is("'" + text + "' in lines of " + width, x.lines(), want);
        due.is("how many lines of '" + text + "'", x.told(7), want.isEmpty() ? 0 : want.split("/").length);
    }

    private static void below() {
        due.says("NONE: no such line, not so many. OUTSIDE: below 0.");
        for (Dots.Maker state : States.ALL) {
            due.is("line(-1, 0)", state.make().line(-1, 0), RaisedDots.OUTSIDE);
            due.is("line(0, -1)", state.make().line(0, -1), RaisedDots.OUTSIDE);
            due.is("line(-1, -1)", state.make().line(-1, -1), RaisedDots.OUTSIDE);
            due.is("line(999, -1), where there is no such line", state.make().line(999, -1), RaisedDots.OUTSIDE);
            due.is("line(-1, 999)", state.make().line(-1, 999), RaisedDots.OUTSIDE);
            due.is("line(MIN_VALUE, MIN_VALUE)", state.make().line(Integer.MIN_VALUE, Integer.MIN_VALUE), RaisedDots.OUTSIDE);
        }
    }

    private static void lastAndBeyond() {
        due.says("CELL i of a line (blanks in it, too); NONE: no such line, not so many.");
        due.is("line(0, 0) of no text", new Dots().line(0, 0), RaisedDots.NONE);
        due.is("line(0, 0) of blanks", Due.typed("  ").line(0, 0), RaisedDots.NONE);
        Dots x = Due.typed("ab cd efg");
        x.set(0, 5);
        due.is("a blank in it", x.line(0, 2), 0);
        due.is("the last of the first line", x.line(0, 4), 4);
        due.is("one beyond, which is the next line's first", x.line(0, 5), RaisedDots.NONE);
        due.is("the first of the last line", x.line(1, 0), 5);
        due.is("the last of the last line", x.line(1, 2), 7);
        due.is("one beyond", x.line(1, 3), RaisedDots.NONE);
        due.is("one line beyond", x.line(2, 0), RaisedDots.NONE);
        due.is("line(0, MAX_VALUE)", x.line(0, Integer.MAX_VALUE), RaisedDots.NONE);
        due.is("line(1, MAX_VALUE)", x.line(1, Integer.MAX_VALUE), RaisedDots.NONE);
        due.is("line(MAX_VALUE, 0)", x.line(Integer.MAX_VALUE, 0), RaisedDots.NONE);
        due.is("line(MAX_VALUE, MAX_VALUE)", x.line(Integer.MAX_VALUE, Integer.MAX_VALUE), RaisedDots.NONE);
        x.wipe();
        x.text(97);
        due.is("a line that a longer text had", x.line(1, 0), RaisedDots.NONE);
    }

    private static void onePiece() {
        due.says("CELLS between blanks are PIECES");
        laid("", 4, "");
        laid("a", 4, "1");
        laid("abc", 4, "1 2 3");
        laid("abcd", 4, "1 2 3 4");
        laid("a-b.", 4, "1 29 2 27");
        laid("a-b.c", 5, "1 29 2 27 3");
    }

    private static void ifThereIsRoom() {
        due.says("a PIECE goes on the line, behind one blank, if there is room, else on the next");
        laid("aa b", 4, "1 1 0 2");
        laid("a bb", 4, "1 0 2 2");
        laid("aa bb", 4, "1 1 / 2 2");
        laid("aa bb", 5, "1 1 0 2 2");
        laid("a bbb", 4, "1 / 2 2 2");
        // no room for the blank, and room for it but for nothing behind it
        laid("aaaa b", 4, "1 1 1 1 / 2");
        laid("aaa b", 4, "1 1 1 / 2");
        laid("aaa b", 5, "1 1 1 0 2");
        laid("a b c", 4, "1 0 2 / 3");
        laid("a b c", 5, "1 0 2 0 3");
        laid("a bbbb", 4, "1 / 2 2 2 2");
        laid("aaaa bbbb", 4, "1 1 1 1 / 2 2 2 2");
        laid("a bbb c", 4, "1 / 2 2 2 / 3");
        laid("aa bbb c d", 4, "1 1 / 2 2 2 / 3 0 4");
    }

    private static void longPieces() {
        due.says("one that is longer than a line begins on a line of its own, and goes on for as many as it needs, W CELLS each");
        laid("abcde", 4, "1 2 3 4 / 5");
        laid("abcdefgh", 4, "1 2 3 4 / 5 6 7 8");
        laid("abcdefghi", 4, "1 2 3 4 / 5 6 7 8 / 9");
        laid("x abcde", 4, "24 / 1 2 3 4 / 5");
        laid("x abcde", 5, "24 / 1 2 3 4 5");
        laid("x abcdef", 5, "24 / 1 2 3 4 5 / 6");
        laid("xxxx abcde", 4, "24 24 24 24 / 1 2 3 4 / 5");
        laid("a".repeat(17), 4, "1 1 1 1 / 1 1 1 1 / 1 1 1 1 / 1 1 1 1 / 1");
    }

    private static void behindTheRest() {
        due.says("the next PIECE behind its rest, if there is room.");
        laid("abcde x", 4, "1 2 3 4 / 5 0 24");
        laid("abcde xy", 4, "1 2 3 4 / 5 0 24 25");
        laid("abcde xyz", 4, "1 2 3 4 / 5 / 24 25 26");
        laid("abcdef x", 4, "1 2 3 4 / 5 6 0 24");
        laid("abcdef xy", 4, "1 2 3 4 / 5 6 / 24 25");
        laid("abcdefg x", 4, "1 2 3 4 / 5 6 7 / 24");
        laid("abcdefgh x", 4, "1 2 3 4 / 5 6 7 8 / 24");
        laid("abcde vwxyz", 4, "1 2 3 4 / 5 / 22 23 24 25 / 26");
        laid("abcde x vwxyz u", 4, "1 2 3 4 / 5 0 24 / 22 23 24 25 / 26 0 21");
    }

    private static void blanks() {
        due.says("(More blanks than one, at the beginning, the end: as one, as none.)");
        laid(" ", 4, "");
        laid("    ", 4, "");
        laid(" ".repeat(41), 4, "");
        laid(" a", 4, "1");
        laid("a ", 4, "1");
        laid("  a  ", 4, "1");
        laid("a  b", 4, "1 0 2");
        laid("a    b", 4, "1 0 2");
        laid("  a   b  ", 4, "1 0 2");
        laid("aaaa    b", 4, "1 1 1 1 / 2");
        laid("abcde   x ", 4, "1 2 3 4 / 5 0 24");
        laid("abcd ", 4, "1 2 3 4");
        laid("     abcd", 4, "1 2 3 4");
    }

    private static void cellsNotSigns() {
        due.says("CELLS between blanks are PIECES");
        laid("AB c", 4, "60 60 1 2 / 3");
        laid("A bc", 4, "60 1 / 2 3");
        laid("A b", 4, "60 1 0 2");
        laid("12 a", 5, "61 1 2 0 1");
        laid("1a", 4, "61 1 62 1");
        laid("1aA", 4, "61 1 62 1 / 60 1");
        Dots x = Due.typed("aaaaaaaaa bbbbbbbbb c ddddddddddddddddddd e");
        due.is("by letters", x.lines(), "1 1 1 1 1 1 1 1 1 0 2 2 2 2 2 2 2 2 2 / 3 / 4 4 4 4 4 4 4 4 4 4 4 4 4 4 4 4 4 4 4 / 5");
        x.withRule("dddd", 44, 0);
        due.is("by a rule", x.lines(), "1 1 1 1 1 1 1 1 1 0 2 2 2 2 2 2 2 2 2 / 3 0 44 44 44 44 4 4 4 0 5");
    }

    private static String row(int cell, int count) {
        return (cell + " ").repeat(count).trim();
    }

    private static void eachWidth() {
        due.says("LAID in lines of W CELLS (4 .. 40; 20 at first)");
        for (int w = 4; w <= 40; w++) {
            laid("a".repeat(w), w, row(1, w));
            laid("a".repeat(w + 1), w, row(1, w) + " / 1");
            laid("a".repeat(2 * w), w, row(1, w) + " / " + row(1, w));
            laid("a".repeat(w - 2) + " b", w, row(1, w - 2) + " 0 2");
            laid("a".repeat(w - 1) + " b", w, row(1, w - 1) + " / 2");
            laid("a".repeat(w) + " b", w, row(1, w) + " / 2");
            laid("b " + "a".repeat(w - 2), w, "2 0 " + row(1, w - 2));
            laid("b " + "a".repeat(w - 1), w, "2 / " + row(1, w - 1));
            laid("a".repeat(2 * w - 2) + " b", w, row(1, w) + " / " + row(1, w - 2) + " 0 2");
            laid("a".repeat(2 * w - 1) + " b", w, row(1, w) + " / " + row(1, w - 1) + " / 2");
        }
    }

    private static void most() {
        due.says("goes on for as many as it needs, W CELLS each");
        Dots x = Due.typed("1A".repeat(60));
        x.set(0, 4);
        due.is("240 cells in lines of 4", x.told(7), 60);
        due.is("the last cell", x.line(59, 3), 1);
        due.is("behind it", x.line(59, 4), RaisedDots.NONE);
        due.is("the line behind", x.line(60, 0), RaisedDots.NONE);
        Dots y = Due.typed("1Aa ".repeat(30));
        y.set(0, 5);
        due.is("thirty pieces of 5", y.told(7), 30);
        due.is("the last cell", y.line(29, 4), 1);
        Dots z = Due.typed("a ".repeat(60));
        z.set(0, 4);
        due.is("two on each line", z.told(7), 30);
        due.is("the last cell", z.line(29, 2), 1);
        due.is("behind it", z.line(29, 3), RaisedDots.NONE);
    }
}
