/** Promises 20 and 21: keep, goBack. */
public final class ImageTest {
    private static final Due due = new Due("ImageTest");

    public static void main(String[] args) {
        both();
        nothingUndone();
        refused();
        due.close();
    }

    private static void both() {
        RaisedDots x = new RaisedDots();
        due.is("keep(1) of nothing", x.keep(1), 0);
        x.rule(28, 30, 0);
        x.rule(29, 31, 1);
        x.set(0, 8);
        x.set(1, 2);
        Due.type(x, "aab");
        x.feel(5);
        due.is("keep(0)", x.keep(0), 2);
        String kept = Due.all(x);
        x.drop(0);
        x.set(0, 9);
        x.set(1, 9);
        x.wipe();
        x.text(120);
        due.is("goBack(0)", x.goBack(0), 2);
        due.is("all as it was", Due.all(x), kept);
        x.rule(30, 32, 2);
        due.is("goBack(0) again", x.goBack(0), 2);
        due.is("the image stays as it was kept", Due.all(x), kept);
        x.feel(6);
        due.is("goBack(1)", x.goBack(1), 0);
        due.is("told(1)", x.told(1), 20);
        due.is("told(2)", x.told(2), 5);
        due.is("told(3)", x.told(3), 0);
        due.is("cells to be read stay", x.told(9), 2);
        x.rule(28, 30, 0);
        due.is("keep(1) anew", x.keep(1), 1);
        x.drop(0);
        due.is("goBack(1)", x.goBack(1), 1);
        due.is("the other image", x.goBack(0), 2);
    }

    private static void nothingUndone() {
        RaisedDots x = new RaisedDots();
        x.text(97);
        x.text(98);
        x.keep(0);
        due.is("told(10) behind keep", x.told(10), 0);
        due.is("undo() behind keep", x.undo(), RaisedDots.NOT);
        x.text(99);
        due.is("told(10)", x.told(10), 1);
        x.goBack(0);
        due.is("told(10) behind goBack", x.told(10), 0);
        due.is("undo() behind goBack", x.undo(), RaisedDots.NOT);
        due.is("told(3)", x.told(3), 2);
        x.text(99);
        due.is("undo() of what came then", x.undo(), 0);
        due.is("told(3)", x.told(3), 2);
    }

    private static void refused() {
        RaisedDots x = new RaisedDots();
        x.rule(28, 30, 0);
        x.text(97);
        int[] none = {Integer.MIN_VALUE, -1, 2, Integer.MAX_VALUE};
        for (int i : none) {
            due.refused("keep(" + i + ")", x, y -> y.keep(i), RaisedDots.UNKNOWN);
            due.refused("goBack(" + i + ")", x, y -> y.goBack(i), RaisedDots.UNKNOWN);
        }
        due.refused("goBack(0), not kept", x, y -> y.goBack(0), RaisedDots.NOT);
        due.refused("goBack(1), not kept", x, y -> y.goBack(1), RaisedDots.NOT);
        x.keep(1);
        due.refused("goBack(0), only 1 kept", x, y -> y.goBack(0), RaisedDots.NOT);
        due.is("goBack(1)", x.goBack(1), 1);
    }
}
