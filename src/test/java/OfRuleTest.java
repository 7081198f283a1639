/** Promise 12: ofRule. */
public final class OfRuleTest {
    public static void main(String[] args) {
        Due due = new Due("OfRuleTest");
        RaisedDots x = new RaisedDots();
        x.rule(Due.code("abc"), 40, 0);
        x.rule(Due.code("ab"), 41, 2);
        x.rule(Due.code("cd"), 42, 3);
        x.rule(Due.code("zz"), 43, 4);
        Due.type(x, "1.abcd ABD xcd abcd");
        // 61 1 27 62 40 4, blank, 60 60 41 4, blank, 24 42, blank, 40 4
        int[][] want = {
            {Due.code("abc"), 40, 0, 2, 17, 2},
            {Due.code("ab"), 41, 2, 1, 18, 7},
            {Due.code("cd"), 42, 3, 1, 18, 12},
            {Due.code("zz"), 43, 4, 0, 17, -1}};
        due.is("told(5)", x.told(5), 17);
        for (int k = 0; k < want.length; k++) {
            for (int what = 0; what <= 5; what++) {
                due.is("ofRule(" + k + ", " + what + ")", x.ofRule(k, what), want[k][what]);
            }
        }
        due.is("asking for it changes nothing: told(5)", x.told(5), 17);

        RaisedDots y = new RaisedDots();
        y.rule(Due.code("aaa"), 30, 0);
        Due.type(y, "aaaaaa");
        due.is("without the only one", y.ofRule(0, 4), 6);
        y.rule(Due.code("aa"), 31, 0);
        due.is("another serves instead", y.ofRule(0, 4), 3);
        due.is("one that never serves", y.ofRule(1, 3), 0);
        due.is("its first sign", y.ofRule(1, 5), RaisedDots.NONE);
        due.is("how often", y.ofRule(0, 3), 2);
        RaisedDots fewer = new RaisedDots();
        fewer.rule(Due.code("abc"), 30, 0);
        fewer.rule(Due.code("ab"), 31, 0);
        fewer.rule(Due.code("cdef"), 32, 0);
        Due.type(fewer, "abcdef");
        due.is("fewer without it", fewer.ofRule(0, 4), 2);

        int[] noRules = {Integer.MIN_VALUE, -1, 4, 12, Integer.MAX_VALUE};
        for (int k : noRules) {
            due.refused("ofRule(" + k + ", 0)", x, z -> z.ofRule(k, 0), RaisedDots.UNKNOWN);
            due.refused("UNKNOWN ahead of OUTSIDE", x, z -> z.ofRule(k, 6), RaisedDots.UNKNOWN);
        }
        int[] noWhats = {Integer.MIN_VALUE, -1, 6, Integer.MAX_VALUE};
        for (int what : noWhats) {
            due.refused("ofRule(0, " + what + ")", x, z -> z.ofRule(0, what), RaisedDots.OUTSIDE);
        }
        due.close();
    }
}
