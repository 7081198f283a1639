/** Promise 2: rule. */
public final class RuleTest {
    private static final Due due = new Due("RuleTest");

    public static void main(String[] args) {
        numbers();
        outside();
        taken();
        full();
        due.close();
    }

    private static void numbers() {
        RaisedDots x = new RaisedDots();
        due.is("two letters", x.rule(28, 30, 0), 0);
        due.is("three letters", x.rule(Due.code("the"), 31, 1), 1);
        due.is("four letters, the last code", x.rule(531440, 59, 4), 2);
        due.is("the last code of two letters", x.rule(728, 32, 2), 3);
        due.is("the first code of three letters", x.rule(757, 33, 3), 4);
        due.is("the first code of four letters", x.rule(20440, 34, 0), 5);
        due.is("the last code of three letters", x.rule(19682, 35, 0), 6);
        due.is("the rules", Due.rules(x), "28 30 0 / " + Due.code("the") + " 31 1 / 531440 59 4 / 728 32 2 / 757 33 3 / 20440 34 0 / 19682 35 0");
        due.is("how many can be undone", x.told(10), 7);
    }

    private static void outside() {
        RaisedDots x = new RaisedDots();
        x.rule(28, 30, 0);
        int[] noCodes = {Integer.MIN_VALUE, -28, -1, 0, 1, 26, 27, 54, 729, 756, 730, 19683, 20439, 531441, 531442, Integer.MAX_VALUE,
            27 * 27 * 5, 28 * 27, 28 * 27 * 27, 28 * 27 * 27 * 27};
        for (int code : noCodes) {
            due.refused("rule(" + code + ", 31, 0)", x, y -> y.rule(code, 31, 0), RaisedDots.OUTSIDE);
        }
        int[] noCells = {Integer.MIN_VALUE, -1, 0, 1, 29, 60, 61, 62, 63, 64, Integer.MAX_VALUE};
        for (int cell : noCells) {
            due.refused("rule(29, " + cell + ", 0)", x, y -> y.rule(29, cell, 0), RaisedDots.OUTSIDE);
        }
        int[] noKinds = {Integer.MIN_VALUE, -1, 5, Integer.MAX_VALUE};
        for (int kind : noKinds) {
            due.refused("rule(29, 31, " + kind + ")", x, y -> y.rule(29, 31, kind), RaisedDots.OUTSIDE);
        }
        due.refused("OUTSIDE ahead of NOT by letters", x, y -> y.rule(28, 31, 5), RaisedDots.OUTSIDE);
        due.refused("OUTSIDE ahead of NOT by cell", x, y -> y.rule(27, 30, 0), RaisedDots.OUTSIDE);
    }

    private static void taken() {
        RaisedDots x = new RaisedDots();
        x.rule(28, 30, 0);
        x.rule(29, 31, 1);
        due.refused("the same letters", x, y -> y.rule(28, 32, 0), RaisedDots.NOT);
        due.refused("the same letters, another kind", x, y -> y.rule(28, 32, 3), RaisedDots.NOT);
        due.refused("the same cell", x, y -> y.rule(30, 31, 0), RaisedDots.NOT);
        due.refused("the same again", x, y -> y.rule(29, 31, 1), RaisedDots.NOT);
        x.drop(0);
        due.is("free again", x.rule(28, 30, 0), 1);
    }

    private static void full() {
        RaisedDots x = new RaisedDots();
        for (int k = 0; k < 12; k++) {
            due.is("rule " + k, x.rule(28 + k, 30 + k, k % 5), k);
        }
        due.refused("the thirteenth", x, y -> y.rule(100, 59, 0), RaisedDots.FULL);
        due.refused("NOT ahead of FULL, by cell", x, y -> y.rule(100, 30, 0), RaisedDots.NOT);
        due.refused("NOT ahead of FULL, by letters", x, y -> y.rule(28, 59, 0), RaisedDots.NOT);
        due.refused("OUTSIDE ahead of FULL", x, y -> y.rule(100, 60, 0), RaisedDots.OUTSIDE);
        x.drop(3);
        due.is("room again", x.rule(100, 59, 0), 11);
    }
}
