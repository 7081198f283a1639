/** Promise 3: drop. */
public final class DropTest {
    public static void main(String[] args) {
        Due due = new Due("DropTest");
        RaisedDots x = new RaisedDots();
        due.refused("drop(0) without a rule", x, y -> y.drop(0), RaisedDots.UNKNOWN);
        x.rule(28, 30, 0);
        x.rule(29, 31, 1);
        x.rule(30, 32, 2);
        x.rule(31, 33, 3);
        int[] none = {Integer.MIN_VALUE, -1, 4, 12, Integer.MAX_VALUE};
        for (int k : none) {
            due.refused("drop(" + k + ")", x, y -> y.drop(k), RaisedDots.UNKNOWN);
        }
        due.is("drop(1)", x.drop(1), 3);
        due.is("those behind have a number less", Due.rules(x), "28 30 0 / 30 32 2 / 31 33 3");
        due.is("by(31)", x.by(31), RaisedDots.NONE);
        due.is("by(33)", x.by(33), 2);
        due.is("the last", x.drop(2), 2);
        due.is("the first", x.drop(0), 1);
        due.is("what is left", Due.rules(x), "30 32 2");
        due.is("the only one", x.drop(0), 0);
        due.refused("drop(0), none left", x, y -> y.drop(0), RaisedDots.UNKNOWN);
        due.is("undo()", x.undo(), 7);
        due.is("undone", Due.rules(x), "30 32 2");
        due.close();
    }
}
