/** Promises 14, 15 and 19: feel, feelAll, rest. */
public final class FeelTest {
    private static final Due due = new Due("FeelTest");

    public static void main(String[] args) {
        bounds();
        full();
        feelAll();
        feelAllOfNone();
        feelAllOfMost();
        rest();
        restOfMost();
        due.close();
    }

    private static void bounds() {
        due.says("A CELL (0 .. 63) comes to be read: how many. OUTSIDE, FULL (240).");
        int[] none = {Integer.MIN_VALUE, -1, 64, Integer.MAX_VALUE};
        for (int cell : none) {
            Dots x = new Dots();
            due.is("feel(" + cell + ")", x.feel(cell), RaisedDots.OUTSIDE);
            due.is("CELLS to be read then", x.told(9), 0);
        }
        Dots x = new Dots();
        for (int cell = 0; cell <= 63; cell++) {
            due.is("feel(" + cell + ")", x.feel(cell), cell + 1);
        }
        due.is("CELLS to be read", x.told(9), 64);
        due.is("none of it can be undone", x.told(10), 0);
    }

    private static void full() {
        due.says("A CELL (0 .. 63) comes to be read: how many. OUTSIDE, FULL (240).");
        Dots x = new Dots();
        for (int i = 1; i <= 240; i++) {
            due.is("the cell " + i, x.feel(i % 26 + 1), i);
        }
        due.is("the 241st", x.feel(1), RaisedDots.FULL);
        due.is("the 241st, none at all", x.feel(63), RaisedDots.FULL);
        due.is("one out of bounds", x.feel(64), RaisedDots.OUTSIDE);
        due.is("CELLS to be read", x.told(9), 240);
        due.is("read()", x.read(), 240);
        due.is("the last sign", x.sign(239), 97 + 240 % 26);
        due.is("rest()", x.rest(), 240);
        due.is("room again", x.feel(1), 1);
    }

    private static void feelAll() {
        due.says("All CELLS of THE TEXT come to be read instead: how many.");
        Dots x = new Dots().withRule("ab", 30, 0).typed("Xab 1.5c").felt(63, 63);
        due.is("instead of those that were there", x.feelAll(), 10);
        due.is("CELLS to be read", x.told(9), 10);
        due.is("read()", x.read(), 8);
        due.is("the signs", x.signs(), "Xab 1.5c");
        due.is("feel behind them", x.feel(4), 11);
        due.is("the signs", x.signs(), "Xab 1.5cd");
        x.wipe();
        due.is("they stay when the text goes", x.signs(), "Xab 1.5cd");
        x.text(97);
        due.is("they stay when another comes", x.signs(), "Xab 1.5cd");
        due.is("fewer instead of more", x.feelAll(), 1);
        due.is("the signs", x.signs(), "a");
        due.is("none of it can be undone", x.told(10), 8);
    }

    private static void feelAllOfNone() {
        due.says("All CELLS of THE TEXT come to be read instead: how many.");
        Dots x = new Dots();
        due.is("of a new object", x.feelAll(), 0);
        x.felt(1, 2, 63);
        due.is("instead of three", x.feelAll(), 0);
        due.is("CELLS to be read", x.told(9), 0);
        due.is("read()", x.read(), 0);
        due.is("fault()", x.fault(), RaisedDots.NONE);
        due.is("sign(0)", x.sign(0), RaisedDots.NONE);
        Dots full = States.FULL.make();
        full.wipe();
        due.is("instead of 240", full.feelAll(), 0);
        due.is("room again", full.feel(1), 1);
    }

    private static void feelAllOfMost() {
        due.says("All CELLS of THE TEXT come to be read instead: how many.");
        Dots x = Due.typed("1A".repeat(60));
        due.is("240", x.feelAll(), 240);
        due.is("read()", x.read(), 120);
        due.is("no more behind them", x.feel(1), RaisedDots.FULL);
        due.is("all again, instead of as many", x.feelAll(), 240);
        due.is("CELLS to be read", x.told(9), 240);
        Dots y = Due.typed("1A".repeat(59) + "1 ");
        due.is("239", y.feelAll(), 239);
        due.is("the 240th", y.feel(1), 240);
        due.is("the 241st", y.feel(1), RaisedDots.FULL);
    }

    private static void rest() {
        due.says("No CELLS are to be read: how many there were.");
        Dots x = Due.felt(1, 2, 63);
        x.text(97);
        due.is("rest()", x.rest(), 3);
        due.is("CELLS to be read", x.told(9), 0);
        due.is("read()", x.read(), 0);
        due.is("fault()", x.fault(), RaisedDots.NONE);
        due.is("sign(0)", x.sign(0), RaisedDots.NONE);
        due.is("with none", x.rest(), 0);
        due.is("the text stays", x.told(3), 1);
        due.is("it cannot be undone", x.told(10), 1);
        due.is("feel(3)", x.feel(3), 1);
        due.is("the signs", x.signs(), "c");
        due.is("rest() of a new object", new Dots().rest(), 0);
    }

    private static void restOfMost() {
        due.says("No CELLS are to be read: how many there were.");
        Dots x = States.FULL.make();
        due.is("rest() of 240", x.rest(), 240);
        due.is("again", x.rest(), 0);
        due.is("the text stays", x.told(3), 120);
        due.is("the rules stay", x.told(0), 12);
    }
}
