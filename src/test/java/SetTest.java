/** Promise 4: set. */
public final class SetTest {
    private static final Due due = new Due("SetTest");

    public static void main(String[] args) {
        width();
        height();
        what();
        undone();
        due.close();
    }

    private static void width() {
        due.says("W CELLS (4 .. 40; 20 at first)");
        int[] none = {Integer.MIN_VALUE, -4, -1, 0, 3, 41, Integer.MAX_VALUE};
        for (int v : none) {
            Dots x = new Dots();
            due.is("set(0, " + v + ")", x.set(0, v), RaisedDots.OUTSIDE);
            due.is("W then", x.told(1), 20);
        }
        due.says("what = 0 W, 1 P becomes v: what it was.");
        Dots x = new Dots();
        due.is("set(0, 4)", x.set(0, 4), 20);
        due.is("W", x.told(1), 4);
        due.is("set(0, 40)", x.set(0, 40), 4);
        due.is("W", x.told(1), 40);
        due.is("the same again", x.set(0, 40), 40);
        due.is("P is as it was", x.told(2), 5);
        due.is("told(10)", x.told(10), 3);
        for (int w = 4; w <= 40; w++) {
            Dots y = Due.typed("a".repeat(41));
            y.set(0, w);
            due.is("41 cells in lines of " + w, y.told(7), (41 + w - 1) / w);
        }
    }

    private static void height() {
        due.says("PAGES of P lines (1 .. 20; 5 at first)");
        int[] none = {Integer.MIN_VALUE, -1, 0, 21, Integer.MAX_VALUE};
        for (int v : none) {
            Dots x = new Dots();
            due.is("set(1, " + v + ")", x.set(1, v), RaisedDots.OUTSIDE);
            due.is("P then", x.told(2), 5);
        }
        due.says("what = 0 W, 1 P becomes v: what it was.");
        Dots x = new Dots();
        due.is("set(1, 1)", x.set(1, 1), 5);
        due.is("P", x.told(2), 1);
        due.is("set(1, 20)", x.set(1, 20), 1);
        due.is("P", x.told(2), 20);
        due.is("the same again", x.set(1, 20), 20);
        due.is("W is as it was", x.told(1), 20);
        due.is("told(10)", x.told(10), 3);
        due.is("P may be 3, which W may not", x.set(1, 3), 20);
        due.is("W may be 21, which P may not", x.set(0, 21), 20);
    }

    private static void what() {
        due.says("what = 0 W, 1 P becomes v: what it was. OUTSIDE.");
        int[] none = {Integer.MIN_VALUE, -1, 2, 3, Integer.MAX_VALUE};
        for (int what : none) {
            Dots x = new Dots();
            due.is("set(" + what + ", 10)", x.set(what, 10), RaisedDots.OUTSIDE);
            due.is("W then", x.told(1), 20);
            due.is("P then", x.told(2), 5);
            due.is("can be undone then", x.told(10), 0);
        }
    }

    private static void undone() {
        due.says("RULES, W, P, THE TEXT are as ahead of it.");
        Dots x = new Dots();
        x.set(0, 4);
        x.set(1, 1);
        x.set(1, 1);
        due.is("of the same again", x.undo(), 2);
        due.is("P", x.told(2), 1);
        due.is("of P", x.undo(), 1);
        due.is("P", x.told(2), 5);
        due.is("W", x.told(1), 4);
        due.is("of W", x.undo(), 0);
        due.is("W", x.told(1), 20);
    }
}
