/** Promise 6: text. */
public final class TextTest {
    public static void main(String[] args) {
        Due due = new Due("TextTest");
        String signs = "abcdefghijklmnopqrstuvwxyzABCDEFGHIJKLMNOPQRSTUVWXYZ0123456789.,- ";
        RaisedDots x = new RaisedDots();
        int count = 0;
        for (int sign = -3; sign < 260; sign++) {
            if (sign >= 0 && signs.indexOf(sign) >= 0) {
                count++;
                due.is("text(" + sign + ")", x.text(sign), count);
            } else {
                int none = sign;
                due.is("text(" + sign + ")", x.text(none), RaisedDots.OUTSIDE);
            }
        }
        due.is("told(3)", x.told(3), signs.length());
        due.refused("text(MIN_VALUE)", x, y -> y.text(Integer.MIN_VALUE), RaisedDots.OUTSIDE);
        due.refused("text(MAX_VALUE)", x, y -> y.text(Integer.MAX_VALUE), RaisedDots.OUTSIDE);
        due.refused("text(97 + 65536)", x, y -> y.text(97 + 65536), RaisedDots.OUTSIDE);
        for (int i = count; i < 120; i++) {
            due.is("text(97), the sign " + i, x.text(97), i + 1);
        }
        due.refused("the 121st", x, y -> y.text(97), RaisedDots.FULL);
        due.refused("OUTSIDE ahead of FULL", x, y -> y.text(33), RaisedDots.OUTSIDE);
        x.undo();
        due.is("room again", x.text(98), 120);
        due.close();
    }
}
