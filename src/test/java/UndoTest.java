/** Promise 8: undo. */
public final class UndoTest {
    private static final Due due = new Due("UndoTest");

    public static void main(String[] args) {
        each();
        atMostEight();
        whatIsNotUndone();
        due.close();
    }

    private static void each() {
        RaisedDots x = new RaisedDots();
        due.refused("undo() of nothing", x, y -> y.undo(), RaisedDots.NOT);
        Due.Call[] calls = {y -> y.rule(28, 30, 0), y -> y.text(97), y -> y.text(97), y -> y.set(0, 7),
            y -> y.set(1, 3), y -> y.drift(3, 5), y -> y.wipe(), y -> y.drop(0)};
        String[] before = new String[calls.length];
        for (int i = 0; i < calls.length; i++) {
            before[i] = Due.all(x);
            calls[i].on(x);
            due.is("told(10)", x.told(10), i + 1);
        }
        for (int i = calls.length - 1; i >= 0; i--) {
            due.is("undo()", x.undo(), i);
            due.is("as ahead of call " + i, Due.all(x), before[i]);
        }
        due.refused("undo() of nothing more", x, y -> y.undo(), RaisedDots.NOT);
    }

    private static void atMostEight() {
        RaisedDots x = new RaisedDots();
        for (int i = 0; i < 21; i++) {
            x.text(97 + i);
            due.is("told(10)", x.told(10), Math.min(8, i + 1));
        }
        for (int i = 7; i >= 0; i--) {
            due.is("undo()", x.undo(), i);
            due.is("told(3)", x.told(3), 13 + i);
        }
        due.refused("the ninth", x, y -> y.undo(), RaisedDots.NOT);
        due.is("the oldest are lost", x.told(3), 13);
        x.wipe();
        due.is("what is undone is no more", x.undo(), 0);
        due.is("told(3)", x.told(3), 13);
    }

    private static void whatIsNotUndone() {
        RaisedDots x = new RaisedDots();
        x.text(97);
        x.feel(5);
        x.feelAll();
        x.feel(6);
        x.read();
        x.fault();
        x.sign(0);
        x.by(3);
        x.cell(0);
        x.line(0, 0);
        due.is("only text() is kept", x.told(10), 1);
        due.is("undo()", x.undo(), 0);
        due.is("cells to be read stay", x.told(9), 2);
        due.is("no text", x.told(3), 0);
        x.feel(1);
        x.rest();
        due.is("rest() cannot be undone", x.undo(), RaisedDots.NOT);
    }
}
