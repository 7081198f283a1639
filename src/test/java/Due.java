/** What the tests share: comparing answers with those that are due, and short ways to fill and show an object. */
final class Due {
    private final String test;
    private int right = 0;
    private int wrong = 0;

    Due(String test) {
        this.test = test;
    }

    void is(String call, long got, long want) {
        note(got == want, call, Long.toString(got), Long.toString(want));
    }

    void is(String call, String got, String want) {
        note(got.equals(want), call, got, want);
    }

    private void note(boolean holds, String call, String got, String want) {
        if (holds) {
            right++;
            return;
        }
        wrong++;
        System.out.println(test + ": " + call + " answered " + got + ", due is " + want);
    }

    /** A call that is refused with an answer, and changes nothing. */
    interface Call {
        int on(RaisedDots x);
    }

    void refused(String call, RaisedDots x, Call made, int want) {
        String before = all(x);
        is(call, made.on(x), want);
        is(call + " changes nothing", all(x), before);
    }

    void close() {
        System.out.println(test + ": " + right + " answers as due, " + wrong + " not");
        if (wrong != 0) {
            System.exit(1);
        }
    }

    static int code(String letters) {
        int code = 0;
        for (char c : letters.toCharArray()) {
            code = code * 27 + c - 96;
        }
        return code;
    }

    static void type(RaisedDots x, String text) {
        for (char c : text.toCharArray()) {
            x.text(c);
        }
    }

    static RaisedDots typed(String text) {
        RaisedDots x = new RaisedDots();
        type(x, text);
        return x;
    }

    static void feel(RaisedDots x, int... cells) {
        for (int cell : cells) {
            x.feel(cell);
        }
    }

    static RaisedDots felt(int... cells) {
        RaisedDots x = new RaisedDots();
        feel(x, cells);
        return x;
    }

    static String cells(RaisedDots x) {
        StringBuilder all = new StringBuilder();
        for (int i = 0; x.cell(i) != RaisedDots.NONE; i++) {
            all.append(i == 0 ? "" : " ").append(x.cell(i));
        }
        return all.toString();
    }

    /** The lines, parted by strokes. */
    static String lines(RaisedDots x) {
        StringBuilder all = new StringBuilder();
        for (int line = 0; x.line(line, 0) != RaisedDots.NONE; line++) {
            all.append(line == 0 ? "" : " / ");
            for (int i = 0; x.line(line, i) != RaisedDots.NONE; i++) {
                all.append(i == 0 ? "" : " ").append(x.line(line, i));
            }
        }
        return all.toString();
    }

    static String signs(RaisedDots x) {
        StringBuilder all = new StringBuilder();
        for (int i = 0; x.sign(i) != RaisedDots.NONE; i++) {
            all.append((char) x.sign(i));
        }
        return all.toString();
    }

    static String rules(RaisedDots x) {
        StringBuilder all = new StringBuilder();
        for (int k = 0; k < x.told(0); k++) {
            all.append(k == 0 ? "" : " / ");
            for (int what = 0; what <= 2; what++) {
                all.append(what == 0 ? "" : " ").append(x.ofRule(k, what));
            }
        }
        return all.toString();
    }

    /** All that can be seen of an object. */
    static String all(RaisedDots x) {
        StringBuilder all = new StringBuilder();
        for (int what = 0; what <= 10; what++) {
            all.append(x.told(what)).append(' ');
        }
        all.append("rules ").append(rules(x)).append(" cells ").append(cells(x)).append(" lines ").append(lines(x));
        all.append(" read ").append(x.read()).append(' ').append(x.fault()).append(' ').append(signs(x));
        return all.toString();
    }
}
