/** Promise 13: by. */
public final class ByTest {
    public static void main(String[] args) {
        Due due = new Due("ByTest");
        RaisedDots x = new RaisedDots();
        x.rule(28, 59, 0);
        x.rule(29, 30, 0);
        x.rule(30, 45, 0);
        for (int cell = 0; cell <= 63; cell++) {
            int want = cell == 59 ? 0 : cell == 30 ? 1 : cell == 45 ? 2 : RaisedDots.NONE;
            due.is("by(" + cell + ")", x.by(cell), want);
        }
        x.drop(0);
        due.is("by(59) without it", x.by(59), RaisedDots.NONE);
        due.is("by(45) of a number less", x.by(45), 1);
        int[] none = {Integer.MIN_VALUE, -1, 64, Integer.MAX_VALUE};
        for (int cell : none) {
            due.refused("by(" + cell + ")", x, y -> y.by(cell), RaisedDots.OUTSIDE);
        }
        due.close();
    }
}
