/** A RaisedDots whose calls are counted: what it answers after the 512th is free, so no test may ask for it. */
final class Dots {
    private static final int MOST_CALLS = 512;

    /** A way to make an object, always alike. */
    interface Maker {
        Dots make();
    }

    /** A call on an object. */
    interface Call {
        int on(Dots x);
    }

    private final RaisedDots real = new RaisedDots();
    private int calls = 0;

    private RaisedDots counted() {
        calls++;
        if (calls > MOST_CALLS) {
            throw new IllegalStateException("a test made more than " + MOST_CALLS + " calls on one object");
        }
        return real;
    }

    int rule(int code, int cell, int kind) {
        return counted().rule(code, cell, kind);
    }

    int drop(int k) {
        return counted().drop(k);
    }

    int set(int what, int v) {
        return counted().set(what, v);
    }

    int drift(int n, int seed) {
        return counted().drift(n, seed);
    }

    int text(int sign) {
        return counted().text(sign);
    }

    int wipe() {
        return counted().wipe();
    }

    int undo() {
        return counted().undo();
    }

    int told(int what) {
        return counted().told(what);
    }

    int cell(int i) {
        return counted().cell(i);
    }

    int line(int line, int i) {
        return counted().line(line, i);
    }

    int ofRule(int k, int what) {
        return counted().ofRule(k, what);
    }

    int by(int cell) {
        return counted().by(cell);
    }

    int feel(int cell) {
        return counted().feel(cell);
    }

    int feelAll() {
        return counted().feelAll();
    }

    int read() {
        return counted().read();
    }

    int fault() {
        return counted().fault();
    }

    int sign(int i) {
        return counted().sign(i);
    }

    int rest() {
        return counted().rest();
    }

    int keep(int i) {
        return counted().keep(i);
    }

    int goBack(int i) {
        return counted().goBack(i);
    }

    // ---- short ways to fill an object

    /** A rule by its letters. */
    Dots withRule(String letters, int cell, int kind) {
        rule(Due.code(letters), cell, kind);
        return this;
    }

    Dots typed(String text) {
        for (char c : text.toCharArray()) {
            text(c);
        }
        return this;
    }

    Dots felt(int... cells) {
        for (int cell : cells) {
            feel(cell);
        }
        return this;
    }

    // ---- short ways to show one

    String cells() {
        StringBuilder all = new StringBuilder();
        int count = told(5);
        for (int i = 0; i < count; i++) {
            all.append(i == 0 ? "" : " ").append(cell(i));
        }
        return all.toString();
    }

    /** The lines, parted by strokes. */
    String lines() {
        StringBuilder all = new StringBuilder();
        int count = told(7);
        for (int line = 0; line < count; line++) {
            all.append(line == 0 ? "" : " / ");
            int got = line(line, 0);
            for (int i = 1; got != RaisedDots.NONE; i++) {
                all.append(i == 1 ? "" : " ").append(got);
                got = line(line, i);
            }
        }
        return all.toString();
    }

    String signs() {
        StringBuilder all = new StringBuilder();
        int got = sign(0);
        for (int i = 1; got != RaisedDots.NONE; i++) {
            all.append((char) got);
            got = sign(i);
        }
        return all.toString();
    }

    /** CODE, CELL and KIND of each rule, the rules parted by strokes. */
    String rules() {
        StringBuilder all = new StringBuilder();
        int count = told(0);
        for (int k = 0; k < count; k++) {
            all.append(k == 0 ? "" : " / ").append(ofRule(k, 0)).append(' ').append(ofRule(k, 1)).append(' ').append(ofRule(k, 2));
        }
        return all.toString();
    }
}
