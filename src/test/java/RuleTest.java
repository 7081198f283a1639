/** Promise 2: rule. */
public final class RuleTest {
    private static final Due due = new Due("RuleTest");

    public static void main(String[] args) {
        numbers();
        leastAndGreatestCodes();
        eachLetter();
        tooFewOrTooManyLetters();
        nothingAtALettersPlace();
        belowZeroAndFarAway();
        cells();
        kinds();
        taken();
        full();
        due.close();
    }

    private static void outside(int code, int cell, int kind) {
        Dots x = new Dots();
        due.is("rule(" + code + ", " + cell + ", " + kind + ")", x.rule(code, cell, kind), RaisedDots.OUTSIDE);
        due.is("RULES then", x.told(0), 0);
    }

    private static void holds(int code, int cell, int kind) {
        Dots x = new Dots();
        due.is("rule(" + code + ", " + cell + ", " + kind + ")", x.rule(code, cell, kind), 0);
        due.is("the rule", x.rules(), code + " " + cell + " " + kind);
    }

    private static void numbers() {
        due.says("A RULE of letters (a CODE: 0, then for each letter 27 times as much, and the letter less 96; 2 to 4 letters), "
            + "a CELL, a KIND: its number.");
        due.says("What has a number has it from 0 on, as it comes.");
        Dots x = new Dots();
        due.is("the first", x.rule(Due.code("ab"), 44, 2), 0);
        due.is("the second", x.rule(Due.code("the"), 31, 1), 1);
        due.is("the third", x.rule(Due.code("tion"), 59, 3), 2);
        due.is("the rules", x.rules(), "29 44 2 / 14801 31 1 / 400640 59 3");
        due.is("how many can be undone", x.told(10), 3);
    }

    private static void leastAndGreatestCodes() {
        due.says("(a CODE: 0, then for each letter 27 times as much, and the letter less 96; 2 to 4 letters)");
        String[] letters = {"aa", "zz", "aaa", "zzz", "aaaa", "zzzz", "az", "za", "aza", "zaz", "azza", "zaaz"};
        int[] codes = {28, 728, 757, 19682, 20440, 531440, 53, 703, 1432, 19007, 39340, 512540};
        for (int i = 0; i < letters.length; i++) {
            holds(codes[i], 30, 0);
            Dots x = new Dots();
            x.rule(codes[i], 30, 0);
            x.feel(30);
            due.is("the letters of " + codes[i], x.signs(), letters[i]);
            x.typed(letters[i]);
            due.is("the cells of " + letters[i], x.cells(), "30");
        }
    }

    /** Each letter at each place of two, three and four. */
    private static void eachLetter() {
        due.says("2 to 4 letters (97 .. 122), a CELL 30 .. 59, a KIND");
        for (int count = 2; count <= 4; count++) {
            for (int place = 0; place < count; place++) {
                for (char letter = 'a'; letter <= 'z'; letter++) {
                    StringBuilder letters = new StringBuilder("mnop".substring(0, count));
                    letters.setCharAt(place, letter);
                    Dots x = new Dots();
                    due.is("rule of " + letters, x.rule(Due.code(letters.toString()), 33, 0), 0);
                    due.is("its code", x.ofRule(0, 0), Due.code(letters.toString()));
                    due.is("its letters", x.felt(33).signs(), letters.toString());
                    due.is("it serves for " + letters, x.typed(letters.toString()).cells(), "33");
                }
            }
        }
    }

    private static void tooFewOrTooManyLetters() {
        due.says("OUTSIDE (a CODE of no such letters, too), NOT: the CELL, the letters have one; FULL (12).");
        outside(0, 30, 0);
        outside(Due.code("a"), 30, 0);
        outside(Due.code("z"), 30, 0);
        outside(Due.code("aaaaa"), 30, 0);
        outside(Due.code("zzzzz"), 30, 0);
        outside(Due.code("aaaaaa"), 30, 0);
    }

    private static void nothingAtALettersPlace() {
        due.says("OUTSIDE (a CODE of no such letters, too)");
        int[][] places = {{1, 0}, {26, 0}, {1, 0, 1}, {1, 1, 0}, {1, 0, 0}, {26, 0, 26}, {26, 26, 0},
            {1, 0, 1, 1}, {1, 1, 0, 1}, {1, 1, 1, 0}, {1, 0, 0, 1}, {1, 1, 0, 0}, {1, 0, 1, 0}, {1, 0, 0, 0},
            {26, 0, 26, 26}, {26, 26, 0, 26}, {26, 26, 26, 0}, {1, 0, 0, 0, 0}, {1, 0, 1, 1, 1}};
        for (int[] place : places) {
            int code = 0;
            for (int letter : place) {
                code = code * 27 + letter;
            }
            outside(code, 30, 0);
        }
        outside(27, 30, 0);
        outside(729, 30, 0);
        outside(19683, 30, 0);
        outside(531441, 30, 0);
    }

    private static void belowZeroAndFarAway() {
        due.says("OUTSIDE (a CODE of no such letters, too)");
        int[] codes = {-1, -28, -757, -20440, -531440, Integer.MIN_VALUE, Integer.MIN_VALUE + 28, Integer.MAX_VALUE, Integer.MAX_VALUE - 1,
            531441 + 28, 531441 + 20440, 1 << 30};
        for (int code : codes) {
            outside(code, 30, 0);
        }
    }

    private static void cells() {
        due.says("a CELL 30 .. 59");
        outside(28, 29, 0);
        holds(28, 30, 0);
        holds(28, 59, 0);
        outside(28, 60, 0);
        int[] none = {Integer.MIN_VALUE, -30, -1, 0, 1, 26, 27, 28, 61, 62, 63, 64, Integer.MAX_VALUE};
        for (int cell : none) {
            outside(28, cell, 0);
        }
    }

    private static void kinds() {
        due.says("a KIND: 0 anywhere in a WORD; 1 a whole WORD; 2 at the beginning of a WORD that goes on; "
            + "3 at the end of a WORD that has something ahead; 4 within (something ahead, and behind).");
        outside(28, 30, -1);
        for (int kind = 0; kind <= 4; kind++) {
            holds(28, 30, kind);
        }
        outside(28, 30, 5);
        outside(28, 30, Integer.MIN_VALUE);
        outside(28, 30, Integer.MAX_VALUE);
    }

    private static void taken() {
        due.says("No two have one CELL, or the same letters.");
        Dots x = new Dots().withRule("ab", 30, 0).withRule("abc", 31, 1);
        due.is("the first one's cell", x.rule(Due.code("zz"), 30, 0), RaisedDots.NOT);
        due.is("the last one's cell", x.rule(Due.code("zz"), 31, 0), RaisedDots.NOT);
        due.is("the first one's letters", x.rule(Due.code("ab"), 40, 0), RaisedDots.NOT);
        due.is("the last one's letters", x.rule(Due.code("abc"), 40, 0), RaisedDots.NOT);
        due.is("the same letters, another kind", x.rule(Due.code("ab"), 40, 4), RaisedDots.NOT);
        due.is("the same again", x.rule(Due.code("ab"), 30, 0), RaisedDots.NOT);
        due.is("letters that begin alike", x.rule(Due.code("abcd"), 32, 0), 2);
        due.is("the same letters in another order", x.rule(Due.code("ba"), 33, 0), 3);
        x.drop(0);
        due.is("free again behind drop", x.rule(Due.code("ab"), 30, 3), 3);
        x.undo();
        due.is("free again behind undo", x.rule(Due.code("zz"), 30, 3), 3);
    }

    private static void full() {
        due.says("RULES (12 at most; none at first)");
        Dots x = new Dots();
        for (int k = 0; k < 12; k++) {
            due.is("rule " + k, x.rule(28 + k, 30 + k, k % 5), k);
        }
        due.is("the 13th", x.rule(100, 59, 0), RaisedDots.FULL);
        due.is("RULES", x.told(0), 12);
        x.drop(3);
        due.is("the 12th again", x.rule(100, 59, 0), 11);
        due.is("the 13th again", x.rule(101, 58, 0), RaisedDots.FULL);
    }
}
