/** Promise 10: cell, and how a text is PUT INTO CELLS. */
public final class CellTest {
    private static final Due due = new Due("CellTest");

    public static void main(String[] args) {
        signs();
        capitals();
        figures();
        letters();
        kinds();
        longest();
        rulesAndCapitals();
        most();
        edges();
        due.close();
    }

    private static void put(String text, String want) {
        due.is("the cells of '" + text + "'", Due.cells(Due.typed(text)), want);
    }

    private static void putBy(String rule, int kind, String text, String want) {
        RaisedDots x = new RaisedDots();
        x.rule(Due.code(rule), 50, kind);
        Due.type(x, text);
        due.is("the cells of '" + text + "' by " + rule + " of kind " + kind, Due.cells(x), want);
    }

    private static void signs() {
        put("", "");
        put("abz", "1 2 26");
        put("., -", "27 28 0 29");
        put("  ", "0 0");
        put("a-b", "1 29 2");
    }

    private static void capitals() {
        put("A", "60 1");
        put("AB", "60 60 1 2");
        put("Ab", "60 1 2");
        put("aB", "1 60 2");
        put("ABc", "60 1 60 2 3");
        put("A B", "60 1 0 60 2");
        put("AB-CD", "60 60 1 2 29 60 60 3 4");
        put("AB1CD", "60 60 1 2 61 1 60 60 3 4");
        put("XYZ", "60 60 24 25 26");
    }

    private static void figures() {
        put("1234567890", "61 1 2 3 4 5 6 7 8 9 10");
        put("1.5", "61 1 27 5");
        put("1,5", "61 1 28 5");
        put("1.5,6.7", "61 1 27 5 28 6 27 7");
        put("1..5", "61 1 27 27 61 5");
        put("1.,5", "61 1 27 28 61 5");
        put(".5", "27 61 5");
        put("5.", "61 5 27");
        put("1-5", "61 1 29 61 5");
        put("1 5", "61 1 0 61 5");
        put("a.5", "1 27 61 5");
        put("1 .5", "61 1 0 27 61 5");
    }

    private static void letters() {
        put("1a", "61 1 62 1");
        put("1j", "61 1 62 10");
        put("1k", "61 1 11");
        put("1.a", "61 1 27 62 1");
        put("1,j", "61 1 28 62 10");
        put("1.k", "61 1 27 11");
        put("1..a", "61 1 27 27 1");
        put("1-a", "61 1 29 1");
        put("1 a", "61 1 0 1");
        put("1A", "61 1 60 1");
        put("1AB", "61 1 60 60 1 2");
        put("1aB", "61 1 62 1 60 2");
        put("1Ba", "61 1 60 2 1");
        put("1ab", "61 1 62 1 2");
        put("1.5.a", "61 1 27 5 27 62 1");
        put("1a2b", "61 1 62 1 61 2 62 2");
        put(".a", "27 1");
        put("a.a", "1 27 1");
        putBy("ab", 0, "1ab", "61 1 62 50");
        putBy("ab", 0, "1.ab", "61 1 27 62 50");
        putBy("ka", 0, "1ka", "61 1 50");
        putBy("ab", 0, "1kab", "61 1 11 50");
    }

    private static void kinds() {
        String text = "ab abx xab xabx";
        putBy("ab", 0, text, "50 0 50 24 0 24 50 0 24 50 24");
        putBy("ab", 1, text, "50 0 1 2 24 0 24 1 2 0 24 1 2 24");
        putBy("ab", 2, text, "1 2 0 50 24 0 24 1 2 0 24 1 2 24");
        putBy("ab", 3, text, "1 2 0 1 2 24 0 24 50 0 24 1 2 24");
        putBy("ab", 4, text, "1 2 0 1 2 24 0 24 1 2 0 24 50 24");
        putBy("ab", 1, "1ab2-ab.", "61 1 62 50 61 2 29 50 27");
        putBy("ab", 3, "-ab", "29 1 2");
        putBy("ab", 2, "ab-", "1 2 29");
        putBy("aa", 4, "aaaaaa", "1 50 50 1");
        putBy("aa", 0, "aaaaa", "50 50 1");
        putBy("abcd", 1, "abcd abcde", "50 0 1 2 3 4 5");
        putBy("ab", 0, "a b a-b", "1 0 2 0 1 29 2");
    }

    private static void longest() {
        RaisedDots x = new RaisedDots();
        x.rule(Due.code("ab"), 30, 0);
        x.rule(Due.code("abcd"), 31, 2);
        x.rule(Due.code("abc"), 32, 0);
        Due.type(x, "abcde abcd abc ab xabcd");
        due.is("the longest that may be there", Due.cells(x), "31 5 0 32 4 0 32 0 30 0 24 32 4");
    }

    private static void rulesAndCapitals() {
        putBy("ab", 0, "AB", "60 60 50");
        putBy("ab", 1, "AB", "60 60 50");
        putBy("ab", 0, "Ab", "60 1 2");
        putBy("ab", 0, "aB", "1 60 2");
        putBy("ab", 0, "Xab", "60 24 50");
        putBy("ab", 3, "Xab", "60 24 50");
        putBy("ab", 1, "Xab", "60 24 1 2");
        putBy("ab", 2, "abX", "50 60 24");
        putBy("ab", 4, "XabX", "60 24 50 60 24");
        putBy("ab", 3, "XAB", "60 60 24 50");
        putBy("ab", 2, "ABX", "60 60 50 24");
    }

    private static void most() {
        RaisedDots x = new RaisedDots();
        for (int i = 0; i < 60; i++) {
            Due.type(x, "1A");
        }
        due.is("told(5)", x.told(5), 240);
        due.is("told(6)", x.told(6), 240);
        due.is("cell(239)", x.cell(239), 1);
        due.is("cell(240)", x.cell(240), RaisedDots.NONE);
        RaisedDots y = new RaisedDots();
        for (int i = 0; i < 60; i++) {
            Due.type(y, "1a");
        }
        due.is("told(5)", y.told(5), 240);
        due.is("cell(238)", y.cell(238), 62);
    }

    private static void edges() {
        RaisedDots x = Due.typed("ab");
        due.is("cell(0)", x.cell(0), 1);
        due.is("cell(1)", x.cell(1), 2);
        due.is("cell(2)", x.cell(2), RaisedDots.NONE);
        due.is("cell(MAX_VALUE)", x.cell(Integer.MAX_VALUE), RaisedDots.NONE);
        due.refused("cell(-1)", x, y -> y.cell(-1), RaisedDots.OUTSIDE);
        due.refused("cell(MIN_VALUE)", x, y -> y.cell(Integer.MIN_VALUE), RaisedDots.OUTSIDE);
    }
}
