/** Promise 13: by. */
public final class ByTest {
    private static final Due due = new Due("ByTest");

    public static void main(String[] args) {
        outside();
        eachCell();
        changes();
        due.close();
    }

    private static void outside() {
        due.says("The RULE with a CELL (0 .. 63); NONE. OUTSIDE.");
        for (Dots.Maker state : States.ALL) {
            due.is("by(-1)", state.make().by(-1), RaisedDots.OUTSIDE);
            due.is("by(0)", state.make().by(0), RaisedDots.NONE);
            due.is("by(63)", state.make().by(63), RaisedDots.NONE);
            due.is("by(64)", state.make().by(64), RaisedDots.OUTSIDE);
            due.is("by(MIN_VALUE)", state.make().by(Integer.MIN_VALUE), RaisedDots.OUTSIDE);
            due.is("by(MAX_VALUE)", state.make().by(Integer.MAX_VALUE), RaisedDots.OUTSIDE);
        }
    }

    private static void eachCell() {
        due.says("The RULE with a CELL (0 .. 63); NONE.");
        Dots x = new Dots().withRule("aa", 59, 0).withRule("ab", 30, 0).withRule("ac", 45, 0);
        for (int cell = 0; cell <= 63; cell++) {
            int want = cell == 59 ? 0 : cell == 30 ? 1 : cell == 45 ? 2 : RaisedDots.NONE;
            due.is("by(" + cell + ")", x.by(cell), want);
        }
        due.is("the first of twelve", States.FULL.make().by(30), 0);
        due.is("the last of twelve", States.FULL.make().by(41), 11);
        due.is("none of twelve", States.FULL.make().by(42), RaisedDots.NONE);
    }

    private static void changes() {
        due.says("The RULE with a CELL (0 .. 63); NONE.");
        Dots x = new Dots().withRule("aa", 59, 0).withRule("ab", 30, 0);
        x.drop(0);
        due.is("a cell whose rule is no more", x.by(59), RaisedDots.NONE);
        due.is("one with a number less", x.by(30), 0);
        x.undo();
        due.is("undone", x.by(59), 0);
        due.is("undone", x.by(30), 1);
        x.undo();
        due.is("undone further", x.by(30), RaisedDots.NONE);
        Dots last = new Dots().withRule("aa", 59, 0).withRule("ab", 30, 0);
        last.drop(1);
        due.is("the last one's cell when it is no more", last.by(30), RaisedDots.NONE);
        due.is("the other's", last.by(59), 0);
    }
}
