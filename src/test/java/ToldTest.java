/** Promise 9: told. */
public final class ToldTest {
    private static final Due due = new Due("ToldTest");

    public static void main(String[] args) {
        counts();
        words();
        fewest();
        pages();
        outside();
        due.close();
    }

    private static void counts() {
        RaisedDots x = new RaisedDots();
        x.rule(Due.code("ab"), 30, 0);
        x.set(0, 6);
        x.set(1, 2);
        Due.type(x, "ab cab 12 Abc");
        x.feel(1);
        x.feel(2);
        int[] want = {1, 6, 2, 13, 3, 13, 13, 3, 2, 2, 8};
        for (int what = 0; what < want.length; what++) {
            due.is("told(" + what + ")", x.told(what), want[what]);
        }
    }

    private static void words() {
        String[] texts = {"", " ", "a", "A", "aB", "a b", " a  b ", "a-b", "a1b", "1", "a.b,c", "AB CD-e9f", "...", "1a"};
        int[] want = {0, 0, 1, 1, 1, 2, 2, 2, 2, 0, 3, 4, 0, 1};
        for (int i = 0; i < texts.length; i++) {
            due.is("WORDS of '" + texts[i] + "'", Due.typed(texts[i]).told(4), want[i]);
        }
    }

    /** The longest first is not always the fewest. */
    private static void fewest() {
        RaisedDots x = new RaisedDots();
        x.rule(Due.code("abc"), 30, 0);
        x.rule(Due.code("ab"), 31, 0);
        x.rule(Due.code("cdef"), 32, 0);
        Due.type(x, "abcdef");
        due.is("told(5)", x.told(5), 4);
        due.is("told(6)", x.told(6), 2);
        x.wipe();
        Due.type(x, "ABCDEF abcdef");
        due.is("told(5) of CAPITALS, too", x.told(5), 2 + 4 + 1 + 4);
        due.is("told(6) of CAPITALS, too", x.told(6), 2 + 2 + 1 + 2);
        x.wipe();
        Due.type(x, "1abcdef Xabcdef");
        due.is("told(5) with modes", x.told(5), 3 + 4 + 1 + 2 + 4);
        due.is("told(6) with modes", x.told(6), 3 + 2 + 1 + 2 + 2);
        x.wipe();
        Due.type(x, "abCdef");
        due.is("a CAPITAL parts it", x.told(6), 1 + 2 + 3);
        RaisedDots z = new RaisedDots();
        z.rule(Due.code("ab"), 30, 2);
        z.rule(Due.code("bcde"), 31, 4);
        z.rule(Due.code("bcd"), 32, 3);
        Due.type(z, "abcdef abcd");
        due.is("KINDS: told(5)", z.told(5), 5 + 1 + 3);
        due.is("KINDS: told(6)", z.told(6), 3 + 1 + 2);
    }

    private static void pages() {
        RaisedDots x = Due.typed("aaaa bbbb cccc dddd eeee ffff");
        x.set(0, 4);
        for (int height = 1; height <= 20; height++) {
            x.set(1, height);
            due.is("lines", x.told(7), 6);
            due.is("PAGES of " + height, x.told(8), (int) Math.ceil(6.0 / height));
        }
    }

    private static void outside() {
        RaisedDots x = Due.typed("ab");
        int[] none = {Integer.MIN_VALUE, -1, 11, Integer.MAX_VALUE};
        for (int what : none) {
            due.refused("told(" + what + ")", x, y -> y.told(what), RaisedDots.OUTSIDE);
        }
    }
}
