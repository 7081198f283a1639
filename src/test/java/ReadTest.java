/** Promises 16, 17 and 18: read, fault, sign. */
public final class ReadTest {
    private static final Due due = new Due("ReadTest");

    public static void main(String[] args) {
        plain();
        rules();
        capitals();
        figures();
        letters();
        longest();
        live();
        edges();
        due.close();
    }

    /** Cell 30 stands for ab, 31 for the, 59 for zzzz; no others do. */
    private static RaisedDots withRules(int... cells) {
        RaisedDots x = new RaisedDots();
        x.rule(Due.code("ab"), 30, 1);
        x.rule(Due.code("the"), 31, 0);
        x.rule(Due.code("zzzz"), 59, 4);
        Due.feel(x, cells);
        return x;
    }

    private static void reads(String want, int... cells) {
        RaisedDots x = withRules(cells);
        String name = java.util.Arrays.toString(cells);
        due.is("read() of " + name, x.read(), want.length());
        due.is("fault() of " + name, x.fault(), RaisedDots.NONE);
        due.is("the signs of " + name, Due.signs(x), want);
        due.is("the cells stay", x.told(9), cells.length);
    }

    private static void fails(int fault, int at, int... cells) {
        RaisedDots x = withRules(cells);
        String name = java.util.Arrays.toString(cells);
        due.is("read() of " + name, x.read(), -10 - fault);
        due.is("fault() of " + name, x.fault(), at);
        due.is("sign(0) of " + name, x.sign(0), RaisedDots.NONE);
        due.is("the cells stay", x.told(9), cells.length);
    }

    private static void plain() {
        reads("");
        reads("az", 1, 26);
        reads(".,- ", 27, 28, 29, 0);
        reads("  a", 0, 0, 1);
        fails(1, 0, 63);
        fails(1, 2, 1, 2, 63, 60);
        fails(1, 1, 1, 32);
        fails(1, 0, 58);
    }

    private static void rules() {
        reads("ab", 30);
        reads("xabx", 24, 30, 24);
        reads("thezzzz", 31, 59);
    }

    private static void capitals() {
        reads("A", 60, 1);
        reads("Ab", 60, 1, 2);
        reads("AB", 60, 1, 60, 2);
        reads("A", 60, 60, 1);
        reads("ABC", 60, 60, 1, 2, 3);
        reads("AB c", 60, 60, 1, 2, 0, 3);
        reads("AB-c", 60, 60, 1, 2, 29, 3);
        reads("ABTHE.a", 60, 60, 30, 31, 27, 1);
        reads("XAB", 60, 60, 24, 30);
        reads("AB", 60, 60, 1, 60, 2);
        reads("A1", 60, 60, 1, 61, 1);
        reads("AB", 60, 60, 1, 60, 60, 2);
        fails(2, 1, 60);
        fails(2, 2, 60, 60);
        fails(2, 1, 60, 0);
        fails(2, 1, 60, 30);
        fails(2, 1, 60, 61, 1);
        fails(2, 1, 60, 62, 1);
        fails(2, 1, 60, 27);
        fails(2, 2, 60, 60, 60, 1);
        fails(2, 2, 60, 60, 0);
        fails(2, 2, 60, 60, 61, 1);
        fails(2, 2, 60, 60, 62, 1);
        fails(1, 3, 60, 60, 1, 32);
        fails(1, 3, 60, 60, 1, 63);
        fails(2, 3, 60, 60, 1, 62);
        // a cell that is none is that wherever it stands
        fails(1, 1, 60, 63);
        fails(1, 1, 60, 32);
        fails(1, 2, 60, 60, 63);
        fails(1, 2, 60, 60, 32);
    }

    private static void figures() {
        reads("1234567890", 61, 1, 2, 3, 4, 5, 6, 7, 8, 9, 10);
        reads("1.5", 61, 1, 27, 5);
        reads("1,0", 61, 1, 28, 10);
        reads("1.5,6", 61, 1, 27, 5, 28, 6);
        reads("1.", 61, 1, 27);
        reads("1..a", 61, 1, 27, 27, 1);
        reads("1.k", 61, 1, 27, 11);
        reads("1k", 61, 1, 11);
        reads("1ka", 61, 1, 11, 1);
        reads("1-a", 61, 1, 29, 1);
        reads("1 a", 61, 1, 0, 1);
        reads("1ab", 61, 1, 30);
        reads("12", 61, 1, 61, 2);
        reads("1.2", 61, 1, 27, 61, 2);
        reads("1A", 61, 1, 60, 1);
        reads("1AB", 61, 1, 60, 60, 1, 2);
        fails(2, 1, 61);
        fails(2, 1, 61, 11);
        fails(2, 1, 61, 0);
        fails(2, 1, 61, 27, 1);
        fails(2, 1, 61, 30);
        fails(2, 1, 61, 60);
        fails(2, 1, 61, 61, 1);
        fails(2, 1, 61, 62, 1);
        fails(1, 1, 61, 63);
        fails(1, 1, 61, 32);
        fails(1, 2, 61, 1, 63);
        fails(1, 3, 61, 1, 27, 32);
    }

    private static void letters() {
        reads("1a", 61, 1, 62, 1);
        reads("1j", 61, 1, 62, 10);
        reads("1aa", 61, 1, 62, 1, 1);
        reads("1.a", 61, 1, 27, 62, 1);
        reads("1,a", 61, 1, 28, 62, 1);
        reads("1ab", 61, 1, 62, 30);
        reads("1.the", 61, 1, 27, 62, 31);
        reads("1.5.a", 61, 1, 27, 5, 27, 62, 1);
        reads("1a2b", 61, 1, 62, 1, 61, 2, 62, 2);
        fails(2, 0, 62);
        fails(2, 0, 62, 1);
        fails(2, 1, 1, 62, 1);
        fails(2, 1, 27, 62, 1);
        fails(2, 2, 61, 1, 62);
        fails(2, 2, 61, 1, 62, 11);
        fails(2, 2, 61, 1, 62, 0);
        fails(2, 2, 61, 1, 62, 62, 1);
        fails(2, 2, 61, 1, 62, 60, 1);
        fails(2, 2, 61, 1, 62, 32);
        fails(2, 2, 61, 1, 62, 63);
        fails(2, 4, 61, 1, 27, 27, 62, 1);
        fails(2, 3, 61, 1, 29, 62, 1);
        fails(2, 3, 61, 1, 0, 62, 1);
        fails(2, 3, 61, 1, 11, 62, 1);
        fails(2, 4, 61, 1, 62, 1, 62, 1);
        fails(2, 5, 61, 1, 62, 1, 27, 62, 1);
        fails(2, 3, 61, 1, 27, 62);
    }

    private static void longest() {
        int[] cells = new int[240];
        java.util.Arrays.fill(cells, 59);
        RaisedDots x = withRules(cells);
        due.is("240 rules of four letters", x.read(), 960);
        due.is("sign(959)", x.sign(959), 122);
        due.is("sign(960)", x.sign(960), RaisedDots.NONE);
    }

    /** The answers are of what is to be read now, by the rules that there are now. */
    private static void live() {
        RaisedDots x = Due.felt(1, 30);
        due.is("fault() without read()", x.fault(), 1);
        x.rule(Due.code("ab"), 30, 0);
        due.is("fault() with the rule", x.fault(), RaisedDots.NONE);
        due.is("sign(2) with the rule", x.sign(2), 98);
        x.undo();
        due.is("sign(0) without it", x.sign(0), RaisedDots.NONE);
        due.is("read() without it", x.read(), -11);

        RaisedDots z = Due.felt(60, 1, 61, 1, 62, 1);
        z.rest();
        z.feel(60);
        due.is("nothing of what was to be read earlier", z.read(), -12);
        due.is("the end", z.fault(), 1);
        z.rest();
        Due.feel(z, 1, 2, 61);
        due.is("nothing of it behind FIGURES", z.fault(), 3);
    }

    private static void edges() {
        RaisedDots x = Due.felt(1, 2);
        due.is("sign(0)", x.sign(0), 97);
        due.is("sign(1)", x.sign(1), 98);
        due.is("sign(2)", x.sign(2), RaisedDots.NONE);
        due.is("sign(MAX_VALUE)", x.sign(Integer.MAX_VALUE), RaisedDots.NONE);
        due.refused("sign(-1)", x, y -> y.sign(-1), RaisedDots.OUTSIDE);
        due.refused("sign(MIN_VALUE)", x, y -> y.sign(Integer.MIN_VALUE), RaisedDots.OUTSIDE);
        x.feel(63);
        due.is("sign(0) with a fault", x.sign(0), RaisedDots.NONE);
        due.refused("OUTSIDE with a fault", x, y -> y.sign(-1), RaisedDots.OUTSIDE);
    }
}
