/** Promise 12: ofRule. */
public final class OfRuleTest {
    private static final Due due = new Due("OfRuleTest");

    public static void main(String[] args) {
        unknown();
        outside();
        all();
        neverServes();
        emptyAndFull();
        without();
        firstSign();
        due.close();
    }

    private static void unknown() {
        due.says("UNKNOWN (a RULE, IMAGE that there is not)");
        int[] none = {Integer.MIN_VALUE, -1, 3, 4, 12, Integer.MAX_VALUE};
        for (int k : none) {
            for (int what = 0; what <= 5; what++) {
                due.is("ofRule(" + k + ", " + what + ") of three", States.SOME.make().ofRule(k, what), RaisedDots.UNKNOWN);
            }
            due.is("ofRule(" + k + ", 6)", States.SOME.make().ofRule(k, 6), RaisedDots.UNKNOWN);
            due.is("ofRule(" + k + ", -1)", States.SOME.make().ofRule(k, -1), RaisedDots.UNKNOWN);
        }
        due.is("ofRule(12, 0) of twelve", States.FULL.make().ofRule(12, 0), RaisedDots.UNKNOWN);
        due.is("ofRule(11, 1) of twelve", States.FULL.make().ofRule(11, 1), 41);
        due.is("ofRule(0, 0) of none", new Dots().ofRule(0, 0), RaisedDots.UNKNOWN);
    }

    private static void outside() {
        due.says("UNKNOWN, OUTSIDE.");
        int[] none = {Integer.MIN_VALUE, -1, 6, 7, Integer.MAX_VALUE};
        for (int what : none) {
            due.is("ofRule(0, " + what + ")", States.SOME.make().ofRule(0, what), RaisedDots.OUTSIDE);
            due.is("ofRule(2, " + what + ")", States.SOME.make().ofRule(2, what), RaisedDots.OUTSIDE);
            due.is("ofRule(11, " + what + ")", States.FULL.make().ofRule(11, what), RaisedDots.OUTSIDE);
        }
    }

    private static void of(Dots x, int k, int... want) {
        for (int what = 0; what < want.length; what++) {
            due.is("ofRule(" + k + ", " + what + ")", x.ofRule(k, what), want[what]);
        }
    }

    private static void all() {
        due.says("Of a RULE: what = 0 CODE, 1 CELL, 2 KIND, 3 how often it serves in THE TEXT, 4 how many CELLS it would have without it, "
            + "5 the first SIGN at which it serves (NONE).");
        Dots x = new Dots().withRule("abc", 40, 0).withRule("ab", 41, 2).withRule("cd", 42, 3).withRule("zz", 43, 4);
        x.typed("1.abcd ABD xcd abcd");
        // 61 1 27 62 40 4, blank, 60 60 41 4, blank, 24 42, blank, 40 4
        due.is("CELLS", x.told(5), 17);
        of(x, 0, Due.code("abc"), 40, 0, 2, 17, 2);
        of(x, 1, Due.code("ab"), 41, 2, 1, 18, 7);
        of(x, 2, Due.code("cd"), 42, 3, 1, 18, 12);
        of(x, 3, Due.code("zz"), 43, 4, 0, 17, RaisedDots.NONE);
        due.is("CELLS, as they were", x.told(5), 17);
    }

    private static void neverServes() {
        due.says("5 the first SIGN at which it serves (NONE).");
        Dots x = new Dots().withRule("zz", 30, 0).withRule("ab", 31, 1).withRule("abc", 32, 0).withRule("bc", 33, 0).typed("abcd");
        of(x, 0, Due.code("zz"), 30, 0, 0, 2, RaisedDots.NONE);
        of(x, 1, Due.code("ab"), 31, 1, 0, 2, RaisedDots.NONE);
        of(x, 2, Due.code("abc"), 32, 0, 1, 3, 0);
        of(x, 3, Due.code("bc"), 33, 0, 0, 2, RaisedDots.NONE);
        x.drop(2);
        of(x, 2, Due.code("bc"), 33, 0, 1, 4, 1);
        x.undo();
        of(x, 3, Due.code("bc"), 33, 0, 0, 2, RaisedDots.NONE);
    }

    private static void emptyAndFull() {
        due.says("3 how often it serves in THE TEXT, 4 how many CELLS it would have without it");
        Dots empty = new Dots().withRule("aa", 30, 0);
        of(empty, 0, 28, 30, 0, 0, 0, RaisedDots.NONE);
        Dots full = new Dots().withRule("aa", 30, 0).typed("a".repeat(120));
        of(full, 0, 28, 30, 0, 60, 120, 0);
        full.wipe();
        of(full, 0, 28, 30, 0, 0, 0, RaisedDots.NONE);
        Dots last = new Dots().withRule("aa", 30, 0).typed("b".repeat(118) + "aa");
        of(last, 0, 28, 30, 0, 1, 120, 118);
        Dots modes = new Dots().withRule("bc", 30, 3).typed("1Abc ".repeat(24));
        of(modes, 0, Due.code("bc"), 30, 3, 24, 24 * 7, 2);
    }

    private static void without() {
        due.says("4 how many CELLS it would have without it");
        Dots x = new Dots().withRule("aaa", 30, 0).typed("aaaaaa");
        due.is("without the only one", x.ofRule(0, 4), 6);
        x.withRule("aa", 31, 0);
        due.is("another serves instead", x.ofRule(0, 4), 3);
        due.is("without one that does not serve", x.ofRule(1, 4), 2);
        Dots fewer = new Dots().withRule("abc", 30, 0).withRule("ab", 31, 0).withRule("cdef", 32, 0).typed("abcdef");
        due.is("CELLS", fewer.told(5), 4);
        due.is("fewer without it", fewer.ofRule(0, 4), 2);
        fewer.withRule("zz", 33, 0);
        due.is("FEWEST", fewer.told(6), 2);
        due.is("CELLS, not FEWEST, without one that does not serve", fewer.ofRule(3, 4), 4);
        due.is("CELLS, not FEWEST, without one of those that FEWEST would choose", fewer.ofRule(2, 4), 4);
        Dots twelve = States.FULL.make();
        for (int k = 0; k < 12; k++) {
            int asked = twelve.ofRule(k, 4);
            twelve.drop(k);
            due.is("as when it is dropped: " + k, twelve.told(5), asked);
            twelve.undo();
        }
    }

    private static void firstSign() {
        due.says("5 the first SIGN at which it serves (NONE).");
        String[] texts = {"ab", "xab", " ab", "Xab", "1ab", "1.ab", "XAB", "abab", "aBab", "a ab ab"};
        int[] want = {0, 1, 1, 1, 1, 2, 1, 0, 2, 2};
        for (int i = 0; i < texts.length; i++) {
            due.is("in '" + texts[i] + "'", new Dots().withRule("ab", 30, 0).typed(texts[i]).ofRule(0, 5), want[i]);
        }
        due.is("a letter of another rule ahead", new Dots().withRule("ba", 31, 0).withRule("ab", 30, 0).typed("babxab").ofRule(1, 5), 4);
    }
}
