/** Promises 20 and 21: keep, goBack. */
public final class ImageTest {
    private static final Due due = new Due("ImageTest");

    public static void main(String[] args) {
        unknown();
        notKept();
        broughtBack();
        toBeReadStays();
        imageStays();
        eachItsOwn();
        ofNothingAndOfMost();
        nothingUndone();
        due.close();
    }

    private static void unknown() {
        due.says("UNKNOWN (a RULE, IMAGE that there is not)");
        for (Dots.Maker state : States.ALL) {
            for (int i : new int[] {Integer.MIN_VALUE, -1, 2, Integer.MAX_VALUE}) {
                due.is("keep(" + i + ")", state.make().keep(i), RaisedDots.UNKNOWN);
                due.is("goBack(" + i + ")", state.make().goBack(i), RaisedDots.UNKNOWN);
            }
        }
        due.says("IMAGE i becomes what is so (nothing can be undone then): how many RULES. UNKNOWN.");
        due.is("keep(0)", States.SOME.make().keep(0), 3);
        due.is("keep(1)", States.SOME.make().keep(1), 3);
    }

    private static void notKept() {
        due.says("UNKNOWN, NOT: it was not kept.");
        Dots x = Due.typed("ab");
        due.is("goBack(0), none kept", x.goBack(0), RaisedDots.NOT);
        due.is("goBack(1), none kept", x.goBack(1), RaisedDots.NOT);
        due.is("the text stays", x.told(3), 2);
        due.is("what can be undone stays", x.told(10), 2);
        x.keep(1);
        due.is("goBack(0), 1 kept", x.goBack(0), RaisedDots.NOT);
        due.is("goBack(1), 1 kept", x.goBack(1), 0);
        due.is("goBack(0), still not kept", x.goBack(0), RaisedDots.NOT);
        Dots y = new Dots();
        y.keep(0);
        due.is("goBack(1), 0 kept", y.goBack(1), RaisedDots.NOT);
        due.is("goBack(0), 0 kept", y.goBack(0), 0);
        y.keep(2);
        y.keep(-1);
        due.is("goBack(1), when keep was refused", y.goBack(1), RaisedDots.NOT);
    }

    private static Dots changed() {
        Dots x = States.KEPT.make();
        x.drop(1);
        x.drift(12, 5);
        x.set(0, 40);
        x.set(1, 20);
        x.wipe();
        x.typed("Zz 9");
        return x;
    }

    private static void broughtBack() {
        due.says("What is so becomes IMAGE i (nothing can be undone then): how many RULES.");
        due.is("goBack(0)", changed().goBack(0), 3);
        due.is("all is as it was kept", Seen.all(() -> {
            Dots x = changed();
            x.goBack(0);
            return x;
        }), Seen.allKnown(States.KEPT));
        Dots x = changed();
        x.goBack(0);
        due.is("the rules", x.rules(), "28 30 0 / 29 31 1 / 30 32 2");
        due.is("W", x.told(1), 9);
        due.is("P", x.told(2), 3);
        due.is("the cells", x.cells(), "30 0 2 1 3");
        due.is("by(31)", x.by(31), 1);
        due.is("a rule's cell is taken again", x.rule(Due.code("zz"), 31, 0), RaisedDots.NOT);
    }

    private static void toBeReadStays() {
        due.says("IMAGES 0, 1 keep RULES, W, P, THE TEXT.");
        Dots x = new Dots().withRule("ab", 30, 0).felt(30, 1);
        x.keep(0);
        due.is("keep leaves the cells to be read", x.signs(), "aba");
        x.drop(0);
        x.felt(2);
        due.is("a fault without the rule", x.fault(), 0);
        x.goBack(0);
        due.is("goBack leaves the cells to be read", x.told(9), 3);
        due.is("and brings the rule back by which they are read", x.signs(), "abab");
        x.rest();
        x.goBack(0);
        due.is("goBack brings no cells to be read", x.told(9), 0);
        Dots full = States.FULL.make();
        full.goBack(1);
        due.is("240 stay", full.told(9), 240);
        due.is("no more come", full.feel(1), RaisedDots.FULL);
        due.is("their rules are gone", full.fault(), 2);
    }

    private static void imageStays() {
        due.says("IMAGE i becomes what is so (nothing can be undone then): how many RULES.");
        Dots x = Due.typed("ab");
        x.keep(0);
        x.typed("cd");
        x.goBack(0);
        x.typed("ef");
        x.set(0, 4);
        x.withRule("ab", 30, 0);
        due.is("goBack(0) again", x.goBack(0), 0);
        due.is("what was changed behind the first goBack is not in it", x.cells(), "1 2");
        due.is("W", x.told(1), 20);
        x.typed("c").withRule("ab", 30, 0);
        due.is("keep(0) anew", x.keep(0), 1);
        x.wipe();
        x.drop(0);
        due.is("goBack(0)", x.goBack(0), 1);
        due.is("what was kept last", x.cells(), "30 3");
        x.wipe();
        x.undo();
        x.typed("d");
        x.goBack(0);
        due.is("undo() is not in it", x.cells(), "30 3");
    }

    private static void eachItsOwn() {
        due.says("IMAGES 0, 1 keep RULES, W, P, THE TEXT.");
        Dots x = Due.typed("a");
        x.keep(0);
        x.typed("b");
        x.keep(1);
        x.typed("c");
        due.is("goBack(0)", x.goBack(0), 0);
        due.is("its cells", x.cells(), "1");
        due.is("goBack(1)", x.goBack(1), 0);
        due.is("its cells", x.cells(), "1 2");
        x.goBack(0);
        x.keep(1);
        due.is("0 kept as 1", x.goBack(1), 0);
        due.is("its cells", x.cells(), "1");
        due.is("goBack(0)", x.goBack(0), 0);
        due.is("its cells", x.cells(), "1");
    }

    private static void ofNothingAndOfMost() {
        due.says("IMAGE i becomes what is so (nothing can be undone then): how many RULES.");
        Dots x = new Dots();
        due.is("keep(1) of nothing", x.keep(1), 0);
        x.typed("ab").withRule("ab", 30, 0);
        x.set(0, 4);
        x.set(1, 1);
        due.is("goBack(1) to nothing", x.goBack(1), 0);
        due.is("SIGNS", x.told(3), 0);
        due.is("W", x.told(1), 20);
        due.is("P", x.told(2), 5);
        Dots full = States.FULL.make();
        due.is("keep(0) of most", full.keep(0), 12);
        due.is("goBack(1)", full.goBack(1), 0);
        due.is("SIGNS", full.told(3), 3);
        due.is("goBack(0) to most", full.goBack(0), 12);
        due.is("SIGNS", full.told(3), 120);
        due.is("full again", full.text(97), RaisedDots.FULL);
        due.is("full again", full.rule(Due.code("zz"), 58, 0), RaisedDots.FULL);
    }

    private static void nothingUndone() {
        due.says("(nothing can be undone then)");
        for (int count = 0; count <= 9; count++) {
            Dots x = new Dots();
            x.keep(1);
            x.typed("a".repeat(count));
            x.keep(0);
            due.is("behind keep", x.told(10), 0);
            due.is("undo() behind keep", x.undo(), RaisedDots.NOT);
            x.typed("a".repeat(count));
            due.is("behind it", x.told(10), Math.min(8, count));
            x.goBack(1);
            due.is("behind goBack", x.told(10), 0);
            due.is("undo() behind goBack", x.undo(), RaisedDots.NOT);
            due.is("SIGNS", x.told(3), 0);
        }
    }
}
