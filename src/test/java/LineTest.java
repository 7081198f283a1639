/** Promise 11: line, and how CELLS are LAID in lines. */
public final class LineTest {
    private static final Due due = new Due("LineTest");

    public static void main(String[] args) {
        laid("", 4, "");
        laid("   ", 4, "");
        laid("a", 4, "1");
        laid("aaaa", 4, "1 1 1 1");
        laid("aaaa b", 4, "1 1 1 1 / 2");
        laid("aa b", 4, "1 1 0 2");
        laid("aa bb", 4, "1 1 / 2 2");
        laid("aa bb", 5, "1 1 0 2 2");
        laid("  a   b  ", 4, "1 0 2");
        laid("aaaaa", 4, "1 1 1 1 / 1");
        laid("aaaaa b", 4, "1 1 1 1 / 1 0 2");
        laid("aaaaa bb c", 4, "1 1 1 1 / 1 0 2 2 / 3");
        laid("aaaaa bbb", 4, "1 1 1 1 / 1 / 2 2 2");
        laid("b aaaaa", 4, "2 / 1 1 1 1 / 1");
        laid("b aaaaaaaa c", 4, "2 / 1 1 1 1 / 1 1 1 1 / 3");
        laid("aaaaa bbbbb", 4, "1 1 1 1 / 1 / 2 2 2 2 / 2");
        laid("aaaaaaaaa bbb cccc", 5, "1 1 1 1 1 / 1 1 1 1 / 2 2 2 / 3 3 3 3");
        laid("a-b.c d", 4, "1 29 2 27 / 3 0 4");
        laid("AB c", 4, "60 60 1 2 / 3");
        laid("12 a", 5, "61 1 2 0 1");
        wide();
        many();
        edges();
        due.close();
    }

    private static void laid(String text, int width, String want) {
        RaisedDots x = Due.typed(text);
        x.set(0, width);
        due.is("'" + text + "' in lines of " + width, Due.lines(x), want);
        due.is("how many lines", x.told(7), want.isEmpty() ? 0 : want.split("/").length);
    }

    private static void wide() {
        RaisedDots x = Due.typed("aaaaaaaaa bbbbbbbbb c ddddddddddddddddddd e");
        due.is("lines of 20", Due.lines(x), "1 1 1 1 1 1 1 1 1 0 2 2 2 2 2 2 2 2 2 / 3 / "
            + "4 4 4 4 4 4 4 4 4 4 4 4 4 4 4 4 4 4 4 / 5");
        x.rule(Due.code("dddd"), 44, 0);
        due.is("rules count", Due.lines(x), "1 1 1 1 1 1 1 1 1 0 2 2 2 2 2 2 2 2 2 / 3 0 44 44 44 44 4 4 4 0 5");
    }

    private static void many() {
        RaisedDots x = new RaisedDots();
        for (int i = 0; i < 60; i++) {
            Due.type(x, "1A");
        }
        x.set(0, 4);
        due.is("240 cells in lines of 4", x.told(7), 60);
        due.is("the last cell", x.line(59, 3), 1);
        due.is("behind it", x.line(59, 4), RaisedDots.NONE);
        due.is("the line behind", x.line(60, 0), RaisedDots.NONE);
    }

    private static void edges() {
        RaisedDots x = Due.typed("ab cd");
        due.is("line(0, 2)", x.line(0, 2), 0);
        due.is("line(0, 5)", x.line(0, 5), RaisedDots.NONE);
        due.is("line(1, 0)", x.line(1, 0), RaisedDots.NONE);
        due.is("line(MAX, MAX)", x.line(Integer.MAX_VALUE, Integer.MAX_VALUE), RaisedDots.NONE);
        due.is("line(0, MAX)", x.line(0, Integer.MAX_VALUE), RaisedDots.NONE);
        due.is("line(MAX, 0)", x.line(Integer.MAX_VALUE, 0), RaisedDots.NONE);
        due.refused("line(-1, 0)", x, y -> y.line(-1, 0), RaisedDots.OUTSIDE);
        due.refused("line(0, -1)", x, y -> y.line(0, -1), RaisedDots.OUTSIDE);
        due.refused("line(7, -1)", x, y -> y.line(7, -1), RaisedDots.OUTSIDE);
        due.refused("line(MIN, 9)", x, y -> y.line(Integer.MIN_VALUE, 9), RaisedDots.OUTSIDE);
    }
}
