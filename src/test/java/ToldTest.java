/** Promise 9: told, and FEWEST. */
public final class ToldTest {
    private static final Due due = new Due("ToldTest");

    public static void main(String[] args) {
        outside();
        empty();
        full();
        mostOfAll();
        askedFirst();
        words();
        fewest();
        fewestByKind();
        pages();
        due.close();
    }

    private static void outside() {
        due.says("10 how many can be undone. OUTSIDE.");
        int[] none = {Integer.MIN_VALUE, -1, 11, 12, Integer.MAX_VALUE};
        for (int what : none) {
            due.is("told(" + what + ") of a new object", new Dots().told(what), RaisedDots.OUTSIDE);
            due.is("told(" + what + ") of a full one", States.FULL.make().told(what), RaisedDots.OUTSIDE);
        }
    }

    private static void tells(String name, Dots x, int... want) {
        for (int what = 0; what < want.length; what++) {
            due.is("told(" + what + ") of " + name, x.told(what), want[what]);
        }
    }

    private static void empty() {
        due.says("0 RULES, 1 W, 2 P, 3 SIGNS of THE TEXT, 4 WORDS, 5 CELLS of it, 6 FEWEST, 7 lines, 8 PAGES, 9 CELLS to be read");
        tells("no text", new Dots(), 0, 20, 5, 0, 0, 0, 0, 0, 0, 0, 0);
        Dots x = new Dots().withRule("aa", 30, 0).felt(1, 2);
        x.set(0, 4);
        x.set(1, 1);
        tells("no text, but all else", x, 1, 4, 1, 0, 0, 0, 0, 0, 0, 2, 3);
        x.typed("aa");
        x.wipe();
        tells("no text any more", x, 1, 4, 1, 0, 0, 0, 0, 0, 0, 2, 6);
    }

    private static void full() {
        due.says("0 RULES, 1 W, 2 P, 3 SIGNS of THE TEXT, 4 WORDS, 5 CELLS of it, 6 FEWEST, 7 lines, 8 PAGES, 9 CELLS to be read");
        tells("one long word", Due.typed("a".repeat(120)), 0, 20, 5, 120, 1, 120, 120, 6, 2, 0, 8);
        tells("one long word of CAPITALS", Due.typed("A".repeat(120)), 0, 20, 5, 120, 1, 122, 122, 7, 2, 0, 8);
        tells("figures and CAPITALS in turn", Due.typed("1A".repeat(60)), 0, 20, 5, 120, 60, 240, 240, 12, 3, 0, 8);
        tells("figures and letters in turn", Due.typed("1a".repeat(60)), 0, 20, 5, 120, 60, 240, 240, 12, 3, 0, 8);
        tells("CAPITALS and letters in turn", Due.typed("Ab".repeat(60)), 0, 20, 5, 120, 1, 180, 180, 9, 2, 0, 8);
        tells("letters and blanks in turn", Due.typed("a ".repeat(60)), 0, 20, 5, 120, 60, 120, 120, 6, 2, 0, 8);
        tells("blanks", Due.typed(" ".repeat(120)), 0, 20, 5, 120, 0, 120, 120, 0, 0, 0, 8);
        tells("figures", Due.typed("1".repeat(120)), 0, 20, 5, 120, 0, 121, 121, 7, 2, 0, 8);
        tells("points", Due.typed(".".repeat(120)), 0, 20, 5, 120, 0, 120, 120, 6, 2, 0, 8);
        tells("strokes", Due.typed("-".repeat(120)), 0, 20, 5, 120, 0, 120, 120, 6, 2, 0, 8);
        tells("words by a rule", new Dots().withRule("aaaa", 30, 0).typed("a".repeat(120)), 1, 20, 5, 120, 1, 30, 30, 2, 1, 0, 8);
        tells("CAPITALS by a rule", new Dots().withRule("aaaa", 30, 0).typed("A".repeat(120)), 1, 20, 5, 120, 1, 32, 32, 2, 1, 0, 8);
    }

    private static void mostOfAll() {
        due.says("7 lines, 8 PAGES, 9 CELLS to be read, 10 how many can be undone.");
        Dots x = Due.typed("1A".repeat(60));
        x.set(0, 4);
        x.set(1, 1);
        x.feelAll();
        tells("the most cells in the shortest lines", x, 0, 4, 1, 120, 60, 240, 240, 60, 60, 240, 8);
        Dots y = Due.typed("aaa ".repeat(30));
        y.set(0, 4);
        y.set(1, 20);
        tells("thirty lines on pages of twenty", y, 0, 4, 20, 120, 30, 120, 120, 30, 2, 0, 8);
        Dots z = Due.typed("a   ".repeat(30));
        z.set(0, 40);
        tells("blanks that count as one", z, 0, 40, 5, 120, 30, 120, 120, 2, 1, 0, 8);
        due.is("twelve rules", States.FULL.make().told(0), 12);
    }

    /** Each answer is the same when nothing else was asked ahead of it, and when something was. */
    private static void askedFirst() {
        due.says("0 RULES, 1 W, 2 P, 3 SIGNS of THE TEXT, 4 WORDS, 5 CELLS of it, 6 FEWEST, 7 lines, 8 PAGES, 9 CELLS to be read");
        // 30 4 5 6, blank, 61 1 2, blank, 60 1, blank, 60 2
        int[] want = {2, 4, 1, 13, 3, 14, 13, 4, 4, 2, 8};
        Dots.Maker maker = () -> {
            Dots x = new Dots().withRule("abc", 30, 0).withRule("cdef", 31, 0).felt(1, 2);
            x.set(0, 4);
            x.set(1, 1);
            return x.typed("abcdef 12 A B");
        };
        Dots.Call[] ahead = {x -> 0, x -> x.ofRule(0, 4), x -> x.ofRule(1, 4), x -> x.told(6), x -> x.read(), x -> x.line(0, 0)};
        for (Dots.Call call : ahead) {
            for (int what = 0; what < want.length; what++) {
                Dots x = maker.make();
                call.on(x);
                due.is("told(" + what + ") asked first, or behind another question", x.told(what), want[what]);
            }
        }
    }

    private static void words() {
        due.says("A WORD of it: letters and CAPITALS as many as stand side by side.");
        String[] texts = {"", " ", "a", "A", "z", "Z", "aB", "Ba", "a b", " a  b ", "a-b", "a1b", "1", "a.b,c", "AB CD-e9f", "...", "1a", "a1"};
        int[] want = {0, 0, 1, 1, 1, 1, 1, 1, 2, 2, 2, 2, 0, 3, 4, 0, 1, 1};
        for (int i = 0; i < texts.length; i++) {
            due.is("WORDS of '" + texts[i] + "'", Due.typed(texts[i]).told(4), want[i]);
        }
    }

    private static void fewer(Dots x, String text, int cells, int fewest) {
        x.wipe();
        x.typed(text);
        due.is("CELLS of '" + text + "'", x.told(5), cells);
        due.is("FEWEST of '" + text + "'", x.told(6), fewest);
    }

    private static void fewest() {
        due.says("FEWEST: the fewest CELLS, if for small letters any of the RULES that may be there, or the letter, may be chosen.");
        Dots x = new Dots().withRule("abc", 30, 0).withRule("ab", 31, 0).withRule("cdef", 32, 0);
        fewer(x, "", 0, 0);
        fewer(x, "a", 1, 1);
        fewer(x, "ab", 1, 1);
        fewer(x, "abcdef", 4, 2);
        fewer(x, "ABCDEF", 2 + 4, 2 + 2);
        fewer(x, "abcdef abcdef", 4 + 1 + 4, 2 + 1 + 2);
        fewer(x, "1abcdef", 2 + 1 + 4, 2 + 1 + 2);
        fewer(x, "1.5abcdef", 4 + 1 + 4, 4 + 1 + 2);
        fewer(x, "Xabcdef", 2 + 4, 2 + 2);
        fewer(x, "abcdefX", 4 + 2, 2 + 2);
        fewer(x, "Abcdef", 2 + 1 + 1, 2 + 1 + 1);
        fewer(x, "abCdef", 1 + 2 + 3, 1 + 2 + 3);
        fewer(x, "ab-cdef", 1 + 1 + 1, 1 + 1 + 1);
        Dots letter = new Dots().withRule("ab", 30, 0).withRule("bcde", 31, 0);
        fewer(letter, "abcde", 4, 2);
        fewer(letter, "abcd", 3, 3);
        fewer(letter, "ababcdeabcde", 2 + 3 + 4, 1 + 2 + 2);
        fewer(new Dots(), "Abc 1.5a DEF", 2 + 2 + 1 + 4 + 1 + 1 + 1 + 2 + 3, 2 + 2 + 1 + 4 + 1 + 1 + 1 + 2 + 3);
    }

    /** FEWEST chooses among the rules that may be there by their KIND, and no others. */
    private static void fewestByKind() {
        due.says("any of the RULES that may be there");
        int[][] want = {{1, 2, 2, 3}, {1, 3, 3, 4}, {2, 2, 3, 4}, {2, 3, 2, 4}, {2, 3, 3, 3}};
        String[] texts = {"ab", "abx", "xab", "xabx"};
        for (int kind = 0; kind <= 4; kind++) {
            for (int i = 0; i < texts.length; i++) {
                fewer(new Dots().withRule("ab", 30, kind), texts[i], want[kind][i], want[kind][i]);
            }
        }
        Dots x = new Dots().withRule("ab", 30, 2).withRule("bcde", 31, 4).withRule("bcd", 32, 3);
        fewer(x, "abcdef", 5, 3);
        fewer(x, "abcd", 3, 2);
        fewer(x, "abcde", 4, 4);
    }

    private static void pages() {
        due.says("PAGES of P lines (1 .. 20; 5 at first)");
        for (int lines = 0; lines <= 24; lines++) {
            Dots x = Due.typed("aaaa ".repeat(lines));
            x.set(0, 4);
            due.is("lines", x.told(7), lines);
            for (int height = 1; height <= 20; height++) {
                x.set(1, height);
                int pages = 0;
                for (int left = lines; left > 0; left -= height) {
                    pages++;
                }
                due.is(lines + " lines on PAGES of " + height, x.told(8), pages);
            }
        }
    }
}
