/** Promises 14, 15 and 19: feel, feelAll, rest. */
public final class FeelTest {
    private static final Due due = new Due("FeelTest");

    public static void main(String[] args) {
        feel();
        feelAll();
        rest();
        due.close();
    }

    private static void feel() {
        RaisedDots x = new RaisedDots();
        for (int cell = 0; cell <= 63; cell++) {
            due.is("feel(" + cell + ")", x.feel(cell), cell + 1);
        }
        int[] none = {Integer.MIN_VALUE, -1, 64, Integer.MAX_VALUE};
        for (int cell : none) {
            due.refused("feel(" + cell + ")", x, y -> y.feel(cell), RaisedDots.OUTSIDE);
        }
        for (int i = 64; i < 240; i++) {
            due.is("feel(1)", x.feel(1), i + 1);
        }
        due.refused("the 241st", x, y -> y.feel(1), RaisedDots.FULL);
        due.refused("OUTSIDE ahead of FULL", x, y -> y.feel(64), RaisedDots.OUTSIDE);
        due.is("told(9)", x.told(9), 240);
    }

    private static void feelAll() {
        RaisedDots x = new RaisedDots();
        x.rule(Due.code("ab"), 30, 0);
        Due.type(x, "Xab 1.5c");
        Due.feel(x, 63, 63);
        due.is("instead of those that were there", x.feelAll(), 10);
        due.is("told(9)", x.told(9), 10);
        due.is("read()", x.read(), 8);
        due.is("the signs", Due.signs(x), "Xab 1.5c");
        due.is("feel behind them", x.feel(4), 11);
        due.is("the signs", Due.signs(x), "Xab 1.5cd");
        x.wipe();
        due.is("they stay when the text goes", Due.signs(x), "Xab 1.5cd");
        due.is("all of no text", x.feelAll(), 0);
        due.is("told(9)", x.told(9), 0);
        for (int i = 0; i < 60; i++) {
            Due.type(x, "1A");
        }
        due.is("240", x.feelAll(), 240);
        due.is("read()", x.read(), 120);
        due.refused("no more", x, y -> y.feel(1), RaisedDots.FULL);
        due.is("all again", x.feelAll(), 240);
    }

    private static void rest() {
        RaisedDots x = Due.felt(1, 2, 63);
        x.text(97);
        due.is("rest()", x.rest(), 3);
        due.is("told(9)", x.told(9), 0);
        due.is("read()", x.read(), 0);
        due.is("fault()", x.fault(), RaisedDots.NONE);
        due.is("sign(0)", x.sign(0), RaisedDots.NONE);
        due.is("of none", x.rest(), 0);
        due.is("the text stays", x.told(3), 1);
        due.is("feel(3)", x.feel(3), 1);
        due.is("the signs", Due.signs(x), "c");
    }
}
