/** Promise 3: drop. */
public final class DropTest {
    private static final Due due = new Due("DropTest");

    public static void main(String[] args) {
        unknown();
        aNumberLess();
        ofTwelve();
        itServesNoMore();
        due.close();
    }

    private static Dots four() {
        return new Dots().withRule("aa", 33, 0).withRule("ab", 32, 1).withRule("ac", 31, 2).withRule("ad", 30, 3);
    }

    private static void unknown() {
        due.says("UNKNOWN (a RULE, IMAGE that there is not)");
        int[] none = {Integer.MIN_VALUE, -1, 4, 5, 12, Integer.MAX_VALUE};
        for (int k : none) {
            due.is("drop(" + k + ") of four", four().drop(k), RaisedDots.UNKNOWN);
        }
        due.is("drop(0) of none", new Dots().drop(0), RaisedDots.UNKNOWN);
        due.is("drop(-1) of none", new Dots().drop(-1), RaisedDots.UNKNOWN);
        Dots x = new Dots().withRule("aa", 30, 0);
        x.drop(0);
        due.is("drop(0) when it is no more", x.drop(0), RaisedDots.UNKNOWN);
    }

    private static void aNumberLess() {
        due.says("A RULE is no more (those behind have a number less): how many are left. UNKNOWN.");
        String[] left = {"29 32 1 / 30 31 2 / 31 30 3", "28 33 0 / 30 31 2 / 31 30 3", "28 33 0 / 29 32 1 / 31 30 3", "28 33 0 / 29 32 1 / 30 31 2"};
        for (int k = 0; k < 4; k++) {
            Dots x = four();
            due.is("drop(" + k + ")", x.drop(k), 3);
            due.is("the rules behind drop(" + k + ")", x.rules(), left[k]);
            for (int other = 0; other < 4; other++) {
                int want = other < k ? other : other == k ? RaisedDots.NONE : other - 1;
                due.is("by(" + (33 - other) + ") behind drop(" + k + ")", x.by(33 - other), want);
            }
            due.is("the number that is free again", x.ofRule(3, 0), RaisedDots.UNKNOWN);
        }
        Dots x = four();
        for (int rest = 3; rest >= 0; rest--) {
            due.is("the first", x.drop(0), rest);
        }
    }

    private static void ofTwelve() {
        due.says("A RULE is no more (those behind have a number less): how many are left.");
        Dots last = States.FULL.make();
        due.is("the last of twelve", last.drop(11), 11);
        due.is("its cell", last.by(41), RaisedDots.NONE);
        due.is("drop(11) then", last.drop(11), RaisedDots.UNKNOWN);
        Dots first = States.FULL.make();
        due.is("the first of twelve", first.drop(0), 11);
        due.is("the last one's number", first.by(41), 10);
        due.is("the second one's number", first.by(31), 0);
    }

    private static void itServesNoMore() {
        due.says("A RULE is no more (those behind have a number less): how many are left.");
        Dots x = new Dots().withRule("ab", 30, 0).withRule("cd", 31, 0).typed("abcd").felt(30, 31);
        x.drop(0);
        due.is("the cells", x.cells(), "1 2 31");
        due.is("the other serves", x.ofRule(0, 3), 1);
        due.is("its cell cannot be read", x.fault(), 0);
        x.undo();
        due.is("undone: the cells", x.cells(), "30 31");
        due.is("undone: the signs", x.signs(), "abcd");
    }
}
