/** Promise 1, and the constants. */
public final class NewObjectTest {
    public static void main(String[] args) {
        Due due = new Due("NewObjectTest");
        RaisedDots x = new RaisedDots();
        int[] first = {0, 20, 5, 0, 0, 0, 0, 0, 0, 0, 0};
        for (int what = 0; what < first.length; what++) {
            due.is("told(" + what + ")", x.told(what), first[what]);
        }
        due.is("cell(0)", x.cell(0), RaisedDots.NONE);
        due.is("line(0, 0)", x.line(0, 0), RaisedDots.NONE);
        due.is("ofRule(0, 0)", x.ofRule(0, 0), RaisedDots.UNKNOWN);
        for (int cell = 0; cell <= 63; cell++) {
            due.is("by(" + cell + ")", x.by(cell), RaisedDots.NONE);
        }
        due.is("read()", x.read(), 0);
        due.is("fault()", x.fault(), RaisedDots.NONE);
        due.is("sign(0)", x.sign(0), RaisedDots.NONE);
        due.is("rest()", x.rest(), 0);
        due.is("undo()", x.undo(), RaisedDots.NOT);
        due.is("goBack(0)", x.goBack(0), RaisedDots.NOT);
        due.is("goBack(1)", x.goBack(1), RaisedDots.NOT);
        due.is("wipe()", x.wipe(), 0);
        due.is("NONE", RaisedDots.NONE, -1);
        due.is("UNKNOWN", RaisedDots.UNKNOWN, -1000000001);
        due.is("OUTSIDE", RaisedDots.OUTSIDE, -1000000002);
        due.is("NOT", RaisedDots.NOT, -1000000003);
        due.is("FULL", RaisedDots.FULL, -1000000004);

        RaisedDots one = new RaisedDots();
        one.rule(28, 30, 0);
        one.text(97);
        one.feel(1);
        one.keep(0);
        due.is("a second object has nothing of the first", Due.all(new RaisedDots()), "0 20 5 0 0 0 0 0 0 0 0 rules  cells  lines  read 0 -1 ");
        due.close();
    }
}
