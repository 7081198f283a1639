/** Promise 7: wipe. */
public final class WipeTest {
    public static void main(String[] args) {
        Due due = new Due("WipeTest");
        RaisedDots x = new RaisedDots();
        x.rule(28, 30, 0);
        x.set(0, 9);
        Due.type(x, "aab 1");
        x.feel(7);
        due.is("wipe()", x.wipe(), 5);
        due.is("told(3)", x.told(3), 0);
        due.is("the cells", Due.cells(x), "");
        due.is("the rules stay", x.told(0), 1);
        due.is("W stays", x.told(1), 9);
        due.is("the cells to be read stay", x.told(9), 1);
        due.is("an empty one", x.wipe(), 0);
        due.is("it can be undone, too", x.undo(), 7);
        due.is("told(3)", x.told(3), 0);
        due.is("undo()", x.undo(), 6);
        due.is("told(3)", x.told(3), 5);
        due.is("the cells", Due.cells(x), "30 2 0 61 1");
        x.wipe();
        due.is("a text after it", x.text(98), 1);
        due.is("its cells", Due.cells(x), "2");
        due.close();
    }
}
