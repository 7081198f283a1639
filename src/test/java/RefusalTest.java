/** REFUSALS: each of each call, their order, and that what is refused changes nothing. */
public final class RefusalTest {
    private static final Due due = new Due("RefusalTest");
    private static final int MIN = Integer.MIN_VALUE;
    private static final int MAX = Integer.MAX_VALUE;
    private static final int UNKNOWN = RaisedDots.UNKNOWN;
    private static final int OUTSIDE = RaisedDots.OUTSIDE;
    private static final int NOT = RaisedDots.NOT;
    private static final int FULL = RaisedDots.FULL;

    public static void main(String[] args) {
        states();
        inEachState();
        whereTaken();
        whereFull();
        whereNot();
        order();
        asking();
        due.close();
    }

    /** So that the states are what the other checks take them for. */
    private static void states() {
        int[][] want = {{0, 0, 0, 0}, {3, 6, 8, 3}, {3, 6, 8, 0}, {12, 120, 240, 8}, {3, 6, 9, 3}};
        for (int s = 0; s < States.ALL.length; s++) {
            Dots x = States.ALL[s].make();
            due.is(States.NAMES[s] + ": RULES", x.told(0), want[s][0]);
            due.is(States.NAMES[s] + ": SIGNS", x.told(3), want[s][1]);
            due.is(States.NAMES[s] + ": CELLS to be read", x.told(9), want[s][2]);
            due.is(States.NAMES[s] + ": can be undone", x.told(10), want[s][3]);
        }
    }

    private static void inEachState() {
        due.says("What is refused changes nothing.");
        for (int s = 0; s < States.ALL.length; s++) {
            Dots.Maker state = States.ALL[s];
            String in = States.NAMES[s] + ": ";
            int rules = States.RULES[s];
            outsideRules(in, state);
            outsideOthers(in, state);
            for (int k : new int[] {MIN, -1, rules, rules + 1, MAX}) {
                due.refused(in + "drop(" + k + ")", state, x -> x.drop(k), UNKNOWN);
                due.refused(in + "ofRule(" + k + ", 0)", state, x -> x.ofRule(k, 0), UNKNOWN);
            }
            for (int i : new int[] {MIN, -1, 2, MAX}) {
                due.refused(in + "keep(" + i + ")", state, x -> x.keep(i), UNKNOWN);
                due.refused(in + "goBack(" + i + ")", state, x -> x.goBack(i), UNKNOWN);
            }
        }
    }

    private static void outsideRules(String in, Dots.Maker state) {
        int free = Due.code("zz");
        for (int code : new int[] {MIN, -1, 0, 26, 27, 730, 531441, MAX}) {
            due.refused(in + "rule(" + code + ", 58, 0)", state, x -> x.rule(code, 58, 0), OUTSIDE);
        }
        for (int cell : new int[] {MIN, -1, 29, 60, MAX}) {
            due.refused(in + "rule(zz, " + cell + ", 0)", state, x -> x.rule(free, cell, 0), OUTSIDE);
        }
        for (int kind : new int[] {MIN, -1, 5, MAX}) {
            due.refused(in + "rule(zz, 58, " + kind + ")", state, x -> x.rule(free, 58, kind), OUTSIDE);
        }
        int[][] sets = {{-1, 10}, {2, 10}, {MIN, 10}, {MAX, 10}, {0, 3}, {0, 41}, {0, MIN}, {0, MAX}, {1, 0}, {1, 21}, {1, MIN}, {1, MAX}, {2, 0}};
        for (int[] set : sets) {
            due.refused(in + "set(" + set[0] + ", " + set[1] + ")", state, x -> x.set(set[0], set[1]), OUTSIDE);
        }
        int[][] drifts = {{0, 5}, {13, 5}, {MIN, 5}, {MAX, 5}, {3, 0}, {3, 1000000}, {3, MIN}, {3, MAX}, {0, 0}, {13, 1000000}};
        for (int[] drift : drifts) {
            due.refused(in + "drift(" + drift[0] + ", " + drift[1] + ")", state, x -> x.drift(drift[0], drift[1]), OUTSIDE);
        }
    }

    private static void outsideOthers(String in, Dots.Maker state) {
        for (int sign : new int[] {MIN, -1, 0, 31, 33, 43, 47, 58, 64, 91, 96, 123, MAX}) {
            due.refused(in + "text(" + sign + ")", state, x -> x.text(sign), OUTSIDE);
        }
        for (int what : new int[] {MIN, -1, 11, MAX}) {
            due.refused(in + "told(" + what + ")", state, x -> x.told(what), OUTSIDE);
        }
        for (int cell : new int[] {MIN, -1, 64, MAX}) {
            due.refused(in + "by(" + cell + ")", state, x -> x.by(cell), OUTSIDE);
            due.refused(in + "feel(" + cell + ")", state, x -> x.feel(cell), OUTSIDE);
        }
        for (int i : new int[] {MIN, -1}) {
            due.refused(in + "cell(" + i + ")", state, x -> x.cell(i), OUTSIDE);
            due.refused(in + "sign(" + i + ")", state, x -> x.sign(i), OUTSIDE);
            due.refused(in + "line(" + i + ", 0)", state, x -> x.line(i, 0), OUTSIDE);
            due.refused(in + "line(0, " + i + ")", state, x -> x.line(0, i), OUTSIDE);
            due.refused(in + "line(" + i + ", " + i + ")", state, x -> x.line(i, i), OUTSIDE);
            due.refused(in + "line(" + MAX + ", " + i + ")", state, x -> x.line(MAX, i), OUTSIDE);
            due.refused(in + "line(" + i + ", " + MAX + ")", state, x -> x.line(i, MAX), OUTSIDE);
        }
    }

    private static void whereTaken() {
        due.says("NOT: the CELL, the letters have one");
        due.refused("the cell", States.SOME, x -> x.rule(Due.code("zz"), 31, 0), NOT);
        due.refused("the letters", States.SOME, x -> x.rule(Due.code("ab"), 58, 0), NOT);
        due.refused("the letters, of another kind", States.SOME, x -> x.rule(Due.code("ab"), 58, 4), NOT);
        due.refused("both, of one rule", States.SOME, x -> x.rule(Due.code("ab"), 31, 1), NOT);
        due.refused("both, of two rules", States.SOME, x -> x.rule(Due.code("ab"), 32, 1), NOT);
    }

    private static void whereFull() {
        due.says("FULL (12).");
        due.refused("the 13th rule", States.FULL, x -> x.rule(Due.code("zz"), 58, 0), FULL);
        due.says("FULL (120).");
        for (int sign : new int[] {32, 44, 45, 46, 48, 57, 65, 90, 97, 122}) {
            due.refused("the 121st sign, " + sign, States.FULL, x -> x.text(sign), FULL);
        }
        due.says("FULL (240).");
        for (int cell : new int[] {0, 1, 63}) {
            due.refused("the 241st cell, " + cell, States.FULL, x -> x.feel(cell), FULL);
        }
    }

    private static void whereNot() {
        due.says("NOT: none.");
        due.refused("undo() of a new object", States.NEW, x -> x.undo(), NOT);
        due.refused("undo() behind keep", States.KEPT, x -> x.undo(), NOT);
        due.says("NOT: it was not kept.");
        due.refused("goBack(0), nothing kept", States.NEW, x -> x.goBack(0), NOT);
        due.refused("goBack(1), nothing kept", States.NEW, x -> x.goBack(1), NOT);
        due.refused("goBack(1), only 0 kept", States.SOME, x -> x.goBack(1), NOT);
    }

    private static void order() {
        due.says("REFUSALS, of several the first in this order: UNKNOWN (a RULE, IMAGE that there is not), "
            + "OUTSIDE (another number out of its bounds), NOT (not now, as told), FULL.");
        due.refused("rule: OUTSIDE by code, NOT by cell", States.SOME, x -> x.rule(27, 31, 0), OUTSIDE);
        due.refused("rule: OUTSIDE by cell, NOT by letters", States.SOME, x -> x.rule(Due.code("ab"), 60, 0), OUTSIDE);
        due.refused("rule: OUTSIDE by kind, NOT by both", States.SOME, x -> x.rule(Due.code("ab"), 31, 5), OUTSIDE);
        due.refused("rule: OUTSIDE by code, FULL", States.FULL, x -> x.rule(27, 58, 0), OUTSIDE);
        due.refused("rule: OUTSIDE by cell, FULL", States.FULL, x -> x.rule(Due.code("zz"), 29, 0), OUTSIDE);
        due.refused("rule: OUTSIDE by kind, FULL", States.FULL, x -> x.rule(Due.code("zz"), 58, -1), OUTSIDE);
        due.refused("rule: OUTSIDE, NOT and FULL", States.FULL, x -> x.rule(Due.code("aa"), 30, 5), OUTSIDE);
        due.refused("rule: NOT by cell, FULL", States.FULL, x -> x.rule(Due.code("zz"), 30, 0), NOT);
        due.refused("rule: NOT by letters, FULL", States.FULL, x -> x.rule(Due.code("aa"), 58, 0), NOT);
        due.refused("rule: NOT by both, FULL", States.FULL, x -> x.rule(Due.code("aa"), 30, 0), NOT);
        due.refused("text: OUTSIDE, FULL", States.FULL, x -> x.text(64), OUTSIDE);
        due.refused("feel: OUTSIDE, FULL", States.FULL, x -> x.feel(64), OUTSIDE);
        for (int what : new int[] {MIN, -1, 6, MAX}) {
            due.refused("ofRule: UNKNOWN below, OUTSIDE", States.SOME, x -> x.ofRule(-1, what), UNKNOWN);
            due.refused("ofRule: UNKNOWN beyond, OUTSIDE", States.SOME, x -> x.ofRule(3, what), UNKNOWN);
            due.refused("ofRule: OUTSIDE alone, first rule", States.SOME, x -> x.ofRule(0, what), OUTSIDE);
            due.refused("ofRule: OUTSIDE alone, last rule", States.SOME, x -> x.ofRule(2, what), OUTSIDE);
        }
        due.refused("goBack: UNKNOWN, and surely not kept", States.NEW, x -> x.goBack(2), UNKNOWN);
        due.refused("goBack: UNKNOWN, and surely not kept", States.NEW, x -> x.goBack(-1), UNKNOWN);
    }

    /** Not refused, but they only ask. */
    private static void asking() {
        due.says("Nothing is promised beyond the answers and state changes described above");
        for (int s = 0; s < States.ALL.length; s++) {
            Dots.Maker state = States.ALL[s];
            String in = States.NAMES[s] + ": ";
            for (int i = 0; i <= 10; i++) {
                int what = i;
                due.unchanged(in + "told(" + what + ")", state, x -> x.told(what));
            }
            for (int i = 0; i <= 5; i++) {
                int what = i;
                due.unchanged(in + "ofRule(1, " + what + ")", state, x -> x.ofRule(1, what));
            }
            due.unchanged(in + "cell(1)", state, x -> x.cell(1));
            due.unchanged(in + "cell(MAX)", state, x -> x.cell(MAX));
            due.unchanged(in + "line(0, 1)", state, x -> x.line(0, 1));
            due.unchanged(in + "line(MAX, MAX)", state, x -> x.line(MAX, MAX));
            due.unchanged(in + "by(30)", state, x -> x.by(30));
            due.unchanged(in + "by(0)", state, x -> x.by(0));
            due.unchanged(in + "read()", state, x -> x.read());
            due.unchanged(in + "fault()", state, x -> x.fault());
            due.unchanged(in + "sign(1)", state, x -> x.sign(1));
            due.unchanged(in + "sign(MAX)", state, x -> x.sign(MAX));
        }
    }
}
