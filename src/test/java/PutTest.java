/** PUT INTO CELLS: words, CAPITALS, rules, figures, LETTERS. */
public final class PutTest {
    private static final Due due = new Due("PutTest");

    public static void main(String[] args) {
        signs();
        cellsStandFor();
        capitals();
        kinds();
        nothingAhead();
        capitalsAhead();
        lettersOfARule();
        wordsEnd();
        mostLetters();
        fromTheLeft();
        figures();
        figuresPointAndComma();
        lettersSign();
        lettersSignAndRules();
        due.close();
    }

    private static void put(String text, String want) {
        due.is("the cells of '" + text + "'", Due.typed(text).cells(), want);
    }

    private static void putBy(String rule, int kind, String text, String want) {
        Dots x = new Dots().withRule(rule, 50, kind).typed(text);
        due.is("the cells of '" + text + "' by " + rule + " of kind " + kind, x.cells(), want);
    }

    private static void signs() {
        due.says("the letter 97 and k is CELL 1 and k (1 .. 26); point 27, comma 28, stroke 29, blank 0");
        put("", "");
        for (int k = 0; k < 26; k++) {
            put(Character.toString(97 + k), Integer.toString(1 + k));
        }
        put(".", "27");
        put(",", "28");
        put("-", "29");
        put(" ", "0");
        put("  ", "0 0");
        put("a-b. c,", "1 29 2 27 0 3 28");
    }

    private static void cellsStandFor() {
        due.says("CELLS 0 .. 63: the letter 97 and k is CELL 1 and k (1 .. 26); point 27, comma 28, stroke 29, blank 0; "
            + "30 .. 59 stand for RULES; 60 CAPITAL, 61 FIGURES, 62 LETTERS, 63 none.");
        for (int cell = 30; cell <= 59; cell++) {
            Dots x = new Dots().withRule("qu", cell, 0).typed("quit");
            due.is("the cells of 'quit', qu being " + cell, x.cells(), cell + " 9 20");
            due.is("the signs of cell " + cell, x.felt(cell).signs(), "qu");
        }
        put("Q", "60 17");
        put("7", "61 7");
        put("7g", "61 7 62 7");
        for (int cell = 0; cell <= 62; cell++) {
            // 30 .. 59 by a rule, CAPITAL and FIGURES with a letter behind, LETTERS behind figures
            Dots x = new Dots().withRule("qu", cell >= 30 && cell <= 59 ? cell : 30, 0);
            x = cell == 62 ? x.felt(61, 1, 62, 1) : cell >= 60 ? x.felt(cell, 1) : x.felt(cell);
            due.is("fault() of cell " + cell, x.fault(), RaisedDots.NONE);
        }
        due.is("63 is none", Due.felt(63).read(), -11);
    }

    private static void capitals() {
        due.says("A WORD: if it has 2 SIGNS or more, all CAPITALS: CAPITAL twice, then its letters as if they were small; "
            + "else each CAPITAL by itself is CAPITAL and its letter.");
        for (int k = 0; k < 26; k++) {
            put(Character.toString(65 + k), "60 " + (1 + k));
            put("Z" + (char) (65 + k), "60 60 26 " + (1 + k));
        }
        put("AB", "60 60 1 2");
        put("ABC", "60 60 1 2 3");
        put("Ab", "60 1 2");
        put("aB", "1 60 2");
        put("ABc", "60 1 60 2 3");
        put("aBC", "1 60 2 60 3");
        put("AbC", "60 1 2 60 3");
        put("aBc", "1 60 2 3");
        put("A B", "60 1 0 60 2");
        put("A-B", "60 1 29 60 2");
        put("A1B", "60 1 61 1 60 2");
        put("AB-CD", "60 60 1 2 29 60 60 3 4");
        put("AB1CD", "60 60 1 2 61 1 60 60 3 4");
        put("AB C de", "60 60 1 2 0 60 3 0 4 5");
    }

    /** Each KIND where the rule's letters are the whole word, begin it, end it, are within. */
    private static void kinds() {
        due.says("0 anywhere in a WORD; 1 a whole WORD; 2 at the beginning of a WORD that goes on; "
            + "3 at the end of a WORD that has something ahead; 4 within (something ahead, and behind).");
        String[] texts = {"ab", "abx", "xab", "xabx"};
        String[] served = {"50", "50 24", "24 50", "24 50 24"};
        String[] not = {"1 2", "1 2 24", "24 1 2", "24 1 2 24"};
        boolean[][] serves = {{true, true, true, true}, {true, false, false, false}, {false, true, false, false},
            {false, false, true, false}, {false, false, false, true}};
        for (int kind = 0; kind <= 4; kind++) {
            for (int i = 0; i < texts.length; i++) {
                putBy("ab", kind, texts[i], serves[kind][i] ? served[i] : not[i]);
                putBy("ab", kind, texts[i].toUpperCase(), "60 60 " + (serves[kind][i] ? served[i] : not[i]));
                putBy("ab", kind, "- " + texts[i] + ".", "29 0 " + (serves[kind][i] ? served[i] : not[i]) + " 27");
            }
        }
        putBy("abcd", 1, "abcd", "50");
        putBy("abcd", 1, "abcde", "1 2 3 4 5");
        putBy("abcd", 2, "abcde", "50 5");
        putBy("abcd", 3, "eabcd", "5 50");
        putBy("abcd", 4, "eabcde", "5 50 5");
        putBy("aa", 4, "aaaa", "1 50 1");
        putBy("aa", 4, "aaa", "1 1 1");
        putBy("aa", 3, "aaa", "1 50");
        putBy("aa", 2, "aaa", "50 1");
        putBy("aa", 2, "aaaa", "50 1 1");
    }

    /** What is no letter and no CAPITAL ends a WORD, so it is nothing ahead or behind. */
    private static void nothingAhead() {
        due.says("A WORD of it: letters and CAPITALS as many as stand side by side.");
        String[] marks = {" ", ".", ",", "-"};
        int[] cells = {0, 27, 28, 29};
        for (int i = 0; i < marks.length; i++) {
            putBy("ab", 1, marks[i] + "ab" + marks[i], cells[i] + " 50 " + cells[i]);
            putBy("ab", 2, "ab" + marks[i] + "x", "1 2 " + cells[i] + " 24");
            putBy("ab", 3, "x" + marks[i] + "ab", "24 " + cells[i] + " 1 2");
            putBy("ab", 4, "x" + marks[i] + "ab" + marks[i] + "x", "24 " + cells[i] + " 1 2 " + cells[i] + " 24");
        }
        putBy("ab", 1, "1ab2", "61 1 62 50 61 2");
        putBy("ab", 2, "1ab2", "61 1 62 1 2 61 2");
        putBy("ab", 3, "1ab2", "61 1 62 1 2 61 2");
        putBy("ab", 4, "1ab2", "61 1 62 1 2 61 2");
    }

    private static void capitalsAhead() {
        due.says("Small letters (and those of a WORD all CAPITALS, as if small)");
        putBy("ab", 0, "Xab", "60 24 50");
        putBy("ab", 1, "Xab", "60 24 1 2");
        putBy("ab", 3, "Xab", "60 24 50");
        putBy("ab", 2, "abX", "50 60 24");
        putBy("ab", 1, "abX", "1 2 60 24");
        putBy("ab", 4, "XabX", "60 24 50 60 24");
        putBy("ab", 0, "XabX", "60 24 50 60 24");
    }

    private static void lettersOfARule() {
        due.says("of the RULES whose letters come there, all within the WORD, all small, and that may be there by KIND");
        putBy("ab", 0, "Ab", "60 1 2");
        putBy("ab", 0, "aB", "1 60 2");
        putBy("ab", 0, "AB", "60 60 50");
        putBy("abc", 0, "abC", "1 2 60 3");
        putBy("abc", 0, "aBc", "1 60 2 3");
        putBy("abcd", 0, "abcD", "1 2 3 60 4");
        putBy("ab", 0, "aBab", "1 60 2 50");
        putBy("ab", 0, "ABx", "60 1 60 2 24");
        putBy("ab", 0, "ba", "2 1");
        putBy("zz", 0, "zzz", "50 26");
    }

    private static void wordsEnd() {
        due.says("all within the WORD");
        putBy("ab", 0, "a", "1");
        putBy("ab", 0, "a b", "1 0 2");
        putBy("ab", 0, "a-b", "1 29 2");
        putBy("ab", 0, "a.b", "1 27 2");
        putBy("ab", 0, "a1b", "1 61 1 62 2");
        putBy("abc", 0, "ab", "1 2");
        putBy("abc", 0, "ab c", "1 2 0 3");
        putBy("abcd", 0, "abc", "1 2 3");
        putBy("abcd", 0, "abc-d", "1 2 3 29 4");
    }

    private static void longest(String text, String want, String[] letters, int[] kinds) {
        for (int turn = 0; turn < letters.length; turn++) {
            Dots x = new Dots();
            for (int i = 0; i < letters.length; i++) {
                int k = (i + turn) % letters.length;
                x.withRule(letters[k], 30 + k, kinds[k]);
            }
            x.typed(text);
            due.is("the cells of '" + text + "', rule " + turn + " first", x.cells(), want);
        }
    }

    /** Whichever of the rules came first. */
    private static void mostLetters() {
        due.says("that with most letters serves: its CELL, and one stands behind them; without one the letter's CELL.");
        String[] all = {"ab", "abc", "abcd"};
        longest("abcd", "32", all, new int[] {0, 0, 0});
        longest("abce", "31 5", all, new int[] {0, 0, 0});
        longest("abde", "30 4 5", all, new int[] {0, 0, 0});
        longest("ABCD", "60 60 32", all, new int[] {0, 0, 0});
        longest("abcD", "31 60 4", all, new int[] {0, 0, 0});
        longest("abC", "30 60 3", all, new int[] {0, 0, 0});
        longest("abc", "31", all, new int[] {0, 0, 0});
        longest("ab", "30", all, new int[] {0, 0, 0});
        longest("abcd", "31 4", all, new int[] {0, 0, 2});
        longest("abcde", "32 5", all, new int[] {0, 0, 2});
        longest("abcd", "30 3 4", all, new int[] {2, 1, 2});
        longest("abcd", "32", all, new int[] {0, 0, 1});
        longest("xabcd", "24 31 4", all, new int[] {0, 0, 1});
        longest("xabcd", "24 32", all, new int[] {0, 4, 3});
        longest("xabc", "24 31", all, new int[] {4, 3, 4});
        longest("xab", "24 1 2", all, new int[] {4, 4, 4});
        longest("abcd", "31", new String[] {"ab", "abcd"}, new int[] {0, 0});
        longest("abc", "30 3", new String[] {"ab", "abcd"}, new int[] {0, 0});
    }

    private static void fromTheLeft() {
        due.says("from where one stands");
        putBy("aa", 0, "aaa", "50 1");
        putBy("aa", 0, "aaaa", "50 50");
        putBy("aba", 0, "ababa", "50 2 1");
        longest("abcdef", "30 4 5 6", new String[] {"abc", "cdef"}, new int[] {0, 0});
        longest("abcd", "30 31", new String[] {"ab", "cd", "bc"}, new int[] {0, 0, 0});
        longest("xabcd", "24 30 31", new String[] {"ab", "cd", "bcd"}, new int[] {0, 0, 0});
    }

    private static void figures() {
        due.says("Figures: 1 to 9 are CELLS 1 to 9, 0 is CELL 10");
        for (int figure = 1; figure <= 9; figure++) {
            put(Integer.toString(figure), "61 " + figure);
        }
        put("0", "61 10");
        put("00", "61 10 10");
        put("1234567890", "61 1 2 3 4 5 6 7 8 9 10");
        due.says("ahead of the first of figures that belong together so FIGURES.");
        put("1 5", "61 1 0 61 5");
        put("1-5", "61 1 29 61 5");
        put("1a5", "61 1 62 1 61 5");
        put("1A5", "61 1 60 1 61 5");
        put("a5", "1 61 5");
        put("a.5", "1 27 61 5");
        put("1 .5", "61 1 0 27 61 5");
    }

    /** All rows of three, and those of two marks between figures. */
    private static void figuresPointAndComma() {
        due.says("a point or comma (27, 28) between two figures belongs to them; ahead of the first of figures that belong together so FIGURES.");
        String[][] rows = {{"111", "61 1 1 1"}, {"11.", "61 1 1 27"}, {"11,", "61 1 1 28"}, {"1.1", "61 1 27 1"}, {"1..", "61 1 27 27"},
            {"1.,", "61 1 27 28"}, {"1,1", "61 1 28 1"}, {"1,.", "61 1 28 27"}, {"1,,", "61 1 28 28"}, {".11", "27 61 1 1"},
            {".1.", "27 61 1 27"}, {".1,", "27 61 1 28"}, {"..1", "27 27 61 1"}, {"...", "27 27 27"}, {"..,", "27 27 28"},
            {".,1", "27 28 61 1"}, {".,.", "27 28 27"}, {".,,", "27 28 28"}, {",11", "28 61 1 1"}, {",1.", "28 61 1 27"},
            {",1,", "28 61 1 28"}, {",.1", "28 27 61 1"}, {",..", "28 27 27"}, {",.,", "28 27 28"}, {",,1", "28 28 61 1"},
            {",,.", "28 28 27"}, {",,,", "28 28 28"}, {"1..1", "61 1 27 27 61 1"}, {"1.,1", "61 1 27 28 61 1"},
            {"1,.1", "61 1 28 27 61 1"}, {"1,,1", "61 1 28 28 61 1"}, {"1.2.3", "61 1 27 2 27 3"}, {"1.2,3", "61 1 27 2 28 3"},
            {"1,2.3", "61 1 28 2 27 3"}, {"1.2..3", "61 1 27 2 27 27 61 3"}, {".1.2.", "27 61 1 27 2 27"}, {"1.-2", "61 1 27 29 61 2"},
            {"1. 2", "61 1 27 0 61 2"}, {"1.a2", "61 1 27 62 1 61 2"}};
        for (String[] row : rows) {
            put(row[0], row[1]);
        }
    }

    private static void lettersSign() {
        due.says("If a small letter 97 .. 106 stands just behind figures, or just behind one point or comma that is just behind figures: LETTERS ahead of it.");
        String[][] ahead = {{"1", "61 1 "}, {"12", "61 1 2 "}, {"0", "61 10 "}, {"1.", "61 1 27 "}, {"1,", "61 1 28 "},
            {"1.5", "61 1 27 5 "}, {"1.5,", "61 1 27 5 28 "}, {"a1", "1 61 1 "}, {".1", "27 61 1 "}, {"..1.", "27 27 61 1 27 "}};
        for (String[] a : ahead) {
            put(a[0] + "a", a[1] + "62 1");
            put(a[0] + "j", a[1] + "62 10");
            put(a[0] + "k", a[1] + "11");
            put(a[0] + "z", a[1] + "26");
            put(a[0] + "A", a[1] + "60 1");
            put(a[0] + "J", a[1] + "60 10");
            put(a[0] + "AB", a[1] + "60 60 1 2");
            put(a[0] + "aB", a[1] + "62 1 60 2");
            put(a[0] + "Ba", a[1] + "60 2 1");
            put(a[0] + "ja", a[1] + "62 10 1");
            put(a[0] + "ka", a[1] + "11 1");
        }
        String[][] not = {{"", ""}, {".", "27 "}, {",", "28 "}, {"-", "29 "}, {" ", "0 "}, {"1..", "61 1 27 27 "}, {"1.,", "61 1 27 28 "},
            {"1,.", "61 1 28 27 "}, {"1,,", "61 1 28 28 "}, {"1-", "61 1 29 "}, {"1 ", "61 1 0 "}, {"1. ", "61 1 27 0 "},
            {"1.-", "61 1 27 29 "}, {"1 .", "61 1 0 27 "}, {"1-.", "61 1 29 27 "}, {"1a.", "61 1 62 1 27 "}, {"1...", "61 1 27 27 27 "}};
        for (String[] n : not) {
            put(n[0] + "a", n[1] + "1");
            put(n[0] + "j", n[1] + "10");
            put(n[0] + "k", n[1] + "11");
        }
        put("1a2b", "61 1 62 1 61 2 62 2");
        put("1.a2,b", "61 1 27 62 1 61 2 28 62 2");
    }

    private static void lettersSignAndRules() {
        due.says("LETTERS ahead of it.");
        putBy("ab", 0, "1ab", "61 1 62 50");
        putBy("ab", 0, "1.ab", "61 1 27 62 50");
        putBy("ab", 0, "1..ab", "61 1 27 27 50");
        putBy("ja", 0, "1ja", "61 1 62 50");
        putBy("ka", 0, "1ka", "61 1 50");
        putBy("ab", 0, "1kab", "61 1 11 50");
        putBy("ab", 0, "1AB", "61 1 60 60 50");
        putBy("ab", 0, "1Ab", "61 1 60 1 2");
        putBy("bc", 0, "1abc", "61 1 62 1 50");
    }
}
