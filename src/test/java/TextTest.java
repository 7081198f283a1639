/** Promise 6: text. */
public final class TextTest {
    private static final Due due = new Due("TextTest");

    public static void main(String[] args) {
        bounds();
        eachSign();
        full();
        due.close();
    }

    private static void bounds() {
        due.says("SIGNS of a text: letters 97 .. 122, CAPITALS 65 .. 90, figures 48 .. 57, the point 46, the comma 44, the stroke 45, the blank 32.");
        int[] within = {32, 44, 45, 46, 48, 57, 65, 90, 97, 122};
        for (int sign : within) {
            Dots x = new Dots();
            due.is("text(" + sign + ")", x.text(sign), 1);
            x.feelAll();
            due.is("the sign itself", x.sign(0), sign);
        }
        int[] beyond = {31, 33, 43, 47, 58, 64, 91, 96, 123};
        for (int sign : beyond) {
            Dots x = new Dots();
            due.is("text(" + sign + ")", x.text(sign), RaisedDots.OUTSIDE);
            due.is("SIGNS then", x.told(3), 0);
            due.is("can be undone then", x.told(10), 0);
        }
    }

    private static void eachSign() {
        due.says("OUTSIDE: it is none; FULL (120).");
        String signs = "abcdefghijklmnopqrstuvwxyzABCDEFGHIJKLMNOPQRSTUVWXYZ0123456789.,- ";
        Dots x = new Dots();
        int count = 0;
        for (int sign = -3; sign < 260; sign++) {
            boolean is = sign >= 0 && signs.indexOf(sign) >= 0;
            count += is ? 1 : 0;
            due.is("text(" + sign + ")", x.text(sign), is ? count : RaisedDots.OUTSIDE);
        }
        due.is("SIGNS", x.told(3), signs.length());
        int[] far = {Integer.MIN_VALUE, -97, 65536 + 97, 256 + 97, Integer.MAX_VALUE};
        for (int sign : far) {
            due.is("text(" + sign + ")", x.text(sign), RaisedDots.OUTSIDE);
        }
    }

    private static void full() {
        due.says("A SIGN comes behind THE TEXT: how many it has.");
        Dots x = new Dots();
        for (int i = 1; i <= 120; i++) {
            due.is("the sign " + i, x.text(i % 2 == 0 ? 97 : 98), i);
        }
        due.is("the last cell", x.cell(119), 1);
        due.says("OUTSIDE: it is none; FULL (120).");
        due.is("the 121st", x.text(99), RaisedDots.FULL);
        due.is("SIGNS", x.told(3), 120);
        due.is("the last cell", x.cell(119), 1);
        x.undo();
        due.is("the 120th again", x.text(99), 120);
        due.is("the last cell", x.cell(119), 3);
        due.is("the 121st again", x.text(99), RaisedDots.FULL);
        x.wipe();
        due.is("the first again", x.text(99), 1);
    }
}
