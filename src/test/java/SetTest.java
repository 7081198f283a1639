/** Promise 4: set. */
public final class SetTest {
    public static void main(String[] args) {
        Due due = new Due("SetTest");
        RaisedDots x = Due.typed("aa bb cc");
        due.is("set(0, 4)", x.set(0, 4), 20);
        due.is("set(0, 40)", x.set(0, 40), 4);
        due.is("told(1)", x.told(1), 40);
        due.is("told(2)", x.told(2), 5);
        due.is("set(1, 1)", x.set(1, 1), 5);
        due.is("set(1, 20)", x.set(1, 20), 1);
        due.is("told(2)", x.told(2), 20);
        due.is("told(1)", x.told(1), 40);
        due.is("the same again", x.set(1, 20), 20);
        int[] noWidths = {Integer.MIN_VALUE, -1, 0, 3, 41, Integer.MAX_VALUE};
        for (int v : noWidths) {
            due.refused("set(0, " + v + ")", x, y -> y.set(0, v), RaisedDots.OUTSIDE);
        }
        int[] noHeights = {Integer.MIN_VALUE, -1, 0, 21, Integer.MAX_VALUE};
        for (int v : noHeights) {
            due.refused("set(1, " + v + ")", x, y -> y.set(1, v), RaisedDots.OUTSIDE);
        }
        int[] noSuch = {Integer.MIN_VALUE, -1, 2, Integer.MAX_VALUE};
        for (int what : noSuch) {
            due.refused("set(" + what + ", 10)", x, y -> y.set(what, 10), RaisedDots.OUTSIDE);
        }
        due.is("undo() of the same again", x.undo(), 7);
        due.is("told(2)", x.told(2), 20);
        due.is("undo()", x.undo(), 6);
        due.is("told(2)", x.told(2), 1);
        due.close();
    }
}
