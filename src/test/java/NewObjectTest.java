/** Promise 1, and the constants. */
public final class NewObjectTest {
    private static final Due due = new Due("NewObjectTest");

    public static void main(String[] args) {
        eachCall();
        widthAndHeight();
        eachIsItsOwn();
        calls();
        constants();
        due.close();
    }

    private static void first(String call, Dots.Call made, int want) {
        due.is(call + " on a new object", made.on(new Dots()), want);
    }

    /** Each call is the first one of an object of its own. */
    private static void eachCall() {
        due.says("No RULES, no THE TEXT, no CELLS to be read.");
        first("rule(28, 30, 0)", x -> x.rule(28, 30, 0), 0);
        first("drop(0)", x -> x.drop(0), RaisedDots.UNKNOWN);
        first("drift(1, 1)", x -> x.drift(1, 1), 1);
        first("text(97)", x -> x.text(97), 1);
        first("wipe()", x -> x.wipe(), 0);
        first("undo()", x -> x.undo(), RaisedDots.NOT);
        int[] told = {0, 20, 5, 0, 0, 0, 0, 0, 0, 0, 0};
        for (int i = 0; i < told.length; i++) {
            int what = i;
            first("told(" + what + ")", x -> x.told(what), told[what]);
        }
        first("cell(0)", x -> x.cell(0), RaisedDots.NONE);
        first("line(0, 0)", x -> x.line(0, 0), RaisedDots.NONE);
        for (int i = 0; i <= 5; i++) {
            int what = i;
            first("ofRule(0, " + what + ")", x -> x.ofRule(0, what), RaisedDots.UNKNOWN);
        }
        for (int i = 0; i <= 63; i++) {
            int cell = i;
            first("by(" + cell + ")", x -> x.by(cell), RaisedDots.NONE);
        }
        first("feel(1)", x -> x.feel(1), 1);
        first("feelAll()", x -> x.feelAll(), 0);
        first("read()", x -> x.read(), 0);
        first("fault()", x -> x.fault(), RaisedDots.NONE);
        first("sign(0)", x -> x.sign(0), RaisedDots.NONE);
        first("rest()", x -> x.rest(), 0);
        for (int i = 0; i <= 1; i++) {
            int image = i;
            first("keep(" + image + ")", x -> x.keep(image), 0);
            first("goBack(" + image + ")", x -> x.goBack(image), RaisedDots.NOT);
        }
    }

    private static void widthAndHeight() {
        due.says("LAID in lines of W CELLS (4 .. 40; 20 at first), PAGES of P lines (1 .. 20; 5 at first)");
        first("set(0, 4)", x -> x.set(0, 4), 20);
        first("set(1, 1)", x -> x.set(1, 1), 5);
        due.is("20 cells in a row: lines", Due.typed("a".repeat(20)).told(7), 1);
        due.is("21 cells in a row: lines", Due.typed("a".repeat(21)).told(7), 2);
        due.is("5 lines: PAGES", Due.typed("a".repeat(100)).told(8), 1);
        due.is("6 lines: PAGES", Due.typed("a".repeat(101)).told(8), 2);
    }

    private static void eachIsItsOwn() {
        due.says("No RULES, no THE TEXT, no CELLS to be read.");
        String alone = Seen.all(Dots::new);
        due.is("a new object beside a full one", Seen.all(() -> {
            States.FULL.make();
            return new Dots();
        }), alone);
        due.is("a new object, then changes to another", Seen.all(() -> {
            Dots x = new Dots();
            States.FULL.make();
            return x;
        }), alone);
    }

    /** The 512th call still answers as the first ones do, whichever came ahead. */
    private static void calls() {
        due.says("An object is used for at most 512 calls after it has been made; what later calls answer is free.");
        Dots.Call[] often = {x -> x.rule(28, 30, 0), x -> x.drop(0), x -> x.set(0, 4), x -> x.drift(12, 999999), x -> x.text(97), x -> x.wipe(),
            x -> x.undo(), x -> x.told(6), x -> x.feel(59), x -> x.feelAll(), x -> x.read(), x -> x.rest(), x -> x.keep(1), x -> x.goBack(1)};
        for (int i = 0; i < often.length; i++) {
            for (int j = 0; j < often.length; j++) {
                Dots x = new Dots();
                for (int call = 0; call < 254; call++) {
                    often[i].on(x);
                    often[j].on(x);
                }
                x.wipe();
                due.is("text(98) behind calls " + i + " and " + j, x.text(98), 1);
                due.is("undo()", x.undo() >= 0 ? 1 : 0, 1);
                due.is("the 512th call", x.told(3), 0);
            }
        }
    }

    private static void constants() {
        due.says("NONE is -1.");
        due.is("NONE", RaisedDots.NONE, -1);
        due.says("They are far below all that is counted: -1000000001 and on.");
        due.is("UNKNOWN", RaisedDots.UNKNOWN, -1000000001);
        due.is("OUTSIDE", RaisedDots.OUTSIDE, -1000000002);
        due.is("NOT", RaisedDots.NOT, -1000000003);
        due.is("FULL", RaisedDots.FULL, -1000000004);
    }
}
