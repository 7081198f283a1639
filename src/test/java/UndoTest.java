import java.util.ArrayList;
import java.util.List;

/** Promise 8: undo. */
public final class UndoTest {
    private static final Due due = new Due("UndoTest");

    public static void main(String[] args) {
        none();
        eachCall();
        refusedOnes();
        atMostEight();
        aroundTheRing();
        undoThenMore();
        keptAndGoneBack();
        whatStays();
        due.close();
    }

    private static void none() {
        due.says("The latest is undone: how many more can be. NOT: none.");
        due.is("undo() of a new object", new Dots().undo(), RaisedDots.NOT);
        Dots x = Due.typed("a");
        due.is("undo()", x.undo(), 0);
        due.is("undo() again", x.undo(), RaisedDots.NOT);
        due.is("undo() is not undone", x.told(3), 0);
        due.is("told(10)", x.told(10), 0);
    }

    /** Each call by itself, from a state where it changes something and from one where it does not. */
    private static void eachCall() {
        due.says("RULES, W, P, THE TEXT are as ahead of it.");
        Dots.Call[] calls = {x -> x.rule(Due.code("zz"), 50, 4), x -> x.drop(0), x -> x.drop(2), x -> x.set(0, 4), x -> x.set(0, 9),
            x -> x.set(1, 20), x -> x.set(1, 3), x -> x.drift(12, 5), x -> x.text(97), x -> x.text(32), x -> x.wipe()};
        for (int i = 0; i < calls.length; i++) {
            Dots.Call call = calls[i];
            Dots x = States.SOME.make();
            call.on(x);
            due.is("call " + i + " can be undone", x.told(10), 4);
            due.is("undo() of call " + i, x.undo(), 3);
            due.is("all behind undo() of call " + i, Seen.all(() -> {
                Dots y = States.SOME.make();
                call.on(y);
                y.undo();
                return y;
            }), Seen.allKnown(States.SOME));
        }
        Dots.Call[] ofFull = {x -> x.drop(0), x -> x.drop(11), x -> x.wipe(), x -> x.drift(12, 5)};
        for (int i = 0; i < ofFull.length; i++) {
            Dots x = States.FULL.make();
            String before = x.rules();
            ofFull[i].on(x);
            due.is("undo() of call " + i + " of a full one", x.undo(), 7);
            due.is("the rules", x.rules(), before);
            due.is("SIGNS", x.told(3), 120);
        }
    }

    private static void refusedOnes() {
        due.says("that was not refused");
        Dots x = Due.typed("a");
        Dots.Call[] refused = {y -> y.rule(27, 30, 0), y -> y.drop(0), y -> y.set(0, 3), y -> y.set(2, 5), y -> y.drift(0, 1), y -> y.text(33)};
        for (int i = 0; i < refused.length; i++) {
            refused[i].on(x);
            due.is("can be undone behind refused call " + i, x.told(10), 1);
        }
        due.is("undo()", x.undo(), 0);
        due.is("what came ahead of them is undone", x.told(3), 0);
    }

    private static void atMostEight() {
        due.says("(8 at most are kept, the oldest are lost)");
        Dots eight = Due.typed("abcdefgh");
        due.is("eight can be undone", eight.told(10), 8);
        for (int left = 7; left >= 0; left--) {
            due.is("undo()", eight.undo(), left);
            due.is("SIGNS", eight.told(3), left);
        }
        due.is("no ninth", eight.undo(), RaisedDots.NOT);
        due.is("SIGNS", eight.told(3), 0);
        Dots nine = Due.typed("abcdefghi");
        due.is("of nine, eight can be undone", nine.told(10), 8);
        for (int left = 7; left >= 0; left--) {
            due.is("undo()", nine.undo(), left);
            due.is("SIGNS", nine.told(3), left + 1);
        }
        due.is("the ninth", nine.undo(), RaisedDots.NOT);
        due.is("the oldest is lost", nine.cells(), "1");
    }

    private static void aroundTheRing() {
        due.says("(8 at most are kept, the oldest are lost)");
        for (int count = 10; count <= 40; count++) {
            Dots x = Due.typed("a".repeat(count));
            due.is("of " + count + " can be undone", x.told(10), 8);
            for (int left = 7; left >= 0; left--) {
                due.is("undo()", x.undo(), left);
            }
            due.is("SIGNS that stay of " + count, x.told(3), count - 8);
            due.is("no more", x.undo(), RaisedDots.NOT);
        }
    }

    /** Against a list of all that was so. */
    private static void undoThenMore() {
        due.says("The latest is undone: how many more can be.");
        Dots x = new Dots();
        List<Integer> past = new ArrayList<>();
        int[] steps = {3, -2, 9, -5, 2, -1, 1, -6, -9, 12, -8, -1, 5, -3, 4, -2, 7, -8};
        int signs = 0;
        for (int step : steps) {
            for (int i = 0; i < step; i++) {
                past.add(signs);
                signs++;
                due.is("text(97)", x.text(97), signs);
            }
            while (past.size() > 8) {
                past.remove(0);
            }
            for (int i = 0; i < -step; i++) {
                boolean none = past.isEmpty();
                signs = none ? signs : past.remove(past.size() - 1);
                due.is("undo()", x.undo(), none ? RaisedDots.NOT : past.size());
                due.is("SIGNS", x.told(3), signs);
            }
            due.is("can be undone", x.told(10), past.size());
        }
    }

    private static void keptAndGoneBack() {
        due.says("(nothing can be undone then)");
        Dots x = Due.typed("abc");
        x.keep(0);
        due.is("undo() behind keep", x.undo(), RaisedDots.NOT);
        due.is("SIGNS", x.told(3), 3);
        x.typed("de");
        due.is("undo() of what came behind keep", x.undo(), 1);
        x.goBack(0);
        due.is("undo() behind goBack", x.undo(), RaisedDots.NOT);
        due.is("SIGNS", x.told(3), 3);
        x.typed("d");
        due.is("undo() of what came behind goBack", x.undo(), 0);
        due.is("SIGNS", x.told(3), 3);
        due.is("undo() of goBack itself", x.undo(), RaisedDots.NOT);
        x.typed("d");
        x.goBack(1);
        x.keep(2);
        due.is("a refused keep or goBack leaves what can be undone", x.undo(), 0);
    }

    private static void whatStays() {
        due.says("UNDONE: the latest of rule(), drop(), set(), drift(), text(), wipe() that was not refused");
        Dots x = Due.typed("a");
        x.feel(5);
        due.is("feel is not kept", x.told(10), 1);
        x.feelAll();
        due.is("feelAll is not kept", x.told(10), 1);
        x.feel(6);
        due.is("undo() is of text", x.undo(), 0);
        due.is("no text", x.told(3), 0);
        due.is("the cells to be read stay", x.signs(), "af");
        x.text(98);
        x.rest();
        due.is("rest is not kept", x.told(10), 1);
        due.is("undo() is of text", x.undo(), 0);
        due.is("no cells to be read", x.told(9), 0);
    }
}
