/** Promise 7: wipe. */
public final class WipeTest {
    private static final Due due = new Due("WipeTest");

    public static void main(String[] args) {
        some();
        empty();
        full();
        due.close();
    }

    private static void some() {
        due.says("THE TEXT is empty: how many SIGNS it had.");
        Dots x = new Dots().withRule("aa", 30, 0);
        x.set(0, 9);
        x.set(1, 2);
        x.typed("aab 1").felt(7);
        due.is("wipe()", x.wipe(), 5);
        due.is("SIGNS", x.told(3), 0);
        due.is("the cells", x.cells(), "");
        due.is("the lines", x.lines(), "");
        due.is("the rules stay", x.rules(), "28 30 0");
        due.is("none serves", x.ofRule(0, 3), 0);
        due.is("W stays", x.told(1), 9);
        due.is("P stays", x.told(2), 2);
        due.is("the cells to be read stay", x.told(9), 1);
        due.is("undo()", x.undo(), 7);
        due.is("the cells", x.cells(), "30 2 0 61 1");
        x.wipe();
        due.is("a sign behind it", x.text(98), 1);
        due.is("its cell", x.cells(), "2");
    }

    private static void empty() {
        due.says("THE TEXT is empty: how many SIGNS it had.");
        Dots x = new Dots();
        due.is("of a new object", x.wipe(), 0);
        due.is("it was not refused, so it can be undone", x.told(10), 1);
        due.is("again", x.wipe(), 0);
        due.is("can be undone", x.told(10), 2);
        due.is("undo()", x.undo(), 1);
        due.is("SIGNS", x.told(3), 0);
        x.text(97);
        x.wipe();
        due.is("when it is empty already", x.wipe(), 0);
        due.is("undo() of the second", x.undo(), 3);
        due.is("SIGNS", x.told(3), 0);
        due.is("undo() of the first", x.undo(), 2);
        due.is("SIGNS", x.told(3), 1);
    }

    private static void full() {
        due.says("THE TEXT is empty: how many SIGNS it had.");
        Dots x = States.FULL.make();
        due.is("of a full one", x.wipe(), 120);
        due.is("SIGNS", x.told(3), 0);
        due.is("room again", x.text(97), 1);
        x.undo();
        x.undo();
        due.is("undone", x.told(3), 120);
        due.is("full again", x.text(97), RaisedDots.FULL);
    }
}
