import java.util.Random;

/** All promises: long runs of calls by chance (always the same chance), each answer compared with the model's. */
public final class ModelTest {
    private static final Due due = new Due("ModelTest");
    private static final String[] PARTS = {"abc", "abab", "ABC", "Abc", "aBc", "1", "2.5", "10,", "3a", "4.b", " ", " ", " ", "-", ".",
        ",", "ddd", "edcba", "cabbage", "DEAD", "1.a", "7,c", "x", "k", "aa", "bcd", "EE"};

    private final Random chance;
    private final Dots x = new Dots();
    private final Model model = new Model();
    private final StringBuilder run = new StringBuilder();

    private ModelTest(long seed) {
        chance = new Random(seed);
        run.append("seed ").append(seed).append(':');
    }

    public static void main(String[] args) {
        for (long seed = 0; seed < 1500; seed++) {
            new ModelTest(seed).go(seed % 3);
        }
        due.close();
    }

    /** An object is used for 512 calls at most. */
    private void go(long style) {
        for (int call = 0; call < 500; ) {
            call += style == 0 ? anyCall() : style == 1 ? textCall() : readCall();
        }
    }

    private int upTo(int bound) {
        return chance.nextInt(bound);
    }

    /** Mostly within the bounds, now and then just outside or far away. */
    private int near(int low, int high) {
        int dice = upTo(40);
        return dice == 0 ? low - 1 : dice == 1 ? high + 1 : dice == 2 ? chance.nextInt() : low + upTo(high - low + 1);
    }

    private int compare(String call, int got, int want) {
        run.append(' ').append(call);
        due.is(got == want ? call : run.toString(), got, want);
        return 1;
    }

    private int textCall() {
        int dice = upTo(10);
        if (dice < 3) {
            return type(PARTS[upTo(PARTS.length)]);
        }
        return dice < 5 ? change() : ask();
    }

    private int readCall() {
        int dice = upTo(10);
        if (dice < 6) {
            int[] often = {60, 61, 62, 27, 28, 1, 2, 10, 11, 30, 31, 0};
            int cell = upTo(3) > 0 ? often[upTo(often.length)] : near(0, 63);
            return compare("feel(" + cell + ")", x.feel(cell), model.feel(cell)) + askRead() + askRead();
        }
        if (dice == 6 && upTo(2) == 0) {
            return compare("rest()", x.rest(), model.rest());
        }
        return dice == 7 ? change() : dice == 8 ? feelAll() : textCall();
    }

    private int feelAll() {
        return compare("feelAll()", x.feelAll(), model.feelAll()) + askRead() + askRead() + askRead();
    }

    private int anyCall() {
        int dice = upTo(10);
        return dice < 3 ? change() : dice < 5 ? textCall() : dice < 7 ? readCall() : ask();
    }

    private int type(String part) {
        int calls = 0;
        for (char c : part.toCharArray()) {
            calls += compare("text(" + (int) c + ")", x.text(c), model.text(c));
        }
        return calls;
    }

    private int change() {
        switch (upTo(12)) {
            case 0: {
                int n = near(1, 12);
                int seed = near(1, 999999);
                return compare("drift(" + n + ", " + seed + ")", x.drift(n, seed), model.drift(n, seed));
            }
            case 1: {
                int k = near(0, 11);
                return compare("drop(" + k + ")", x.drop(k), model.drop(k));
            }
            case 2: {
                int what = near(0, 1);
                int v = what == 0 ? near(4, 40) : near(1, 20);
                return compare("set(" + what + ", " + v + ")", x.set(what, v), model.set(what, v));
            }
            case 3: {
                int sign = near(32, 122);
                return compare("text(" + sign + ")", x.text(sign), model.text(sign));
            }
            case 4:
                return upTo(4) > 0 ? 0 : compare("wipe()", x.wipe(), model.wipe());
            case 5:
            case 6:
                return compare("undo()", x.undo(), model.undo());
            case 7: {
                int i = near(0, 1);
                return compare("keep(" + i + ")", x.keep(i), model.keep(i));
            }
            case 8: {
                int i = near(0, 1);
                return upTo(3) > 0 ? 0 : compare("goBack(" + i + ")", x.goBack(i), model.goBack(i));
            }
            default: {
                int code = upTo(10) == 0 ? near(0, 531441) : someCode();
                int cell = near(30, 59);
                int kind = near(0, 4);
                return compare("rule(" + code + ", " + cell + ", " + kind + ")", x.rule(code, cell, kind), model.rule(code, cell, kind));
            }
        }
    }

    private int someCode() {
        int code = 0;
        for (int left = 2 + upTo(3); left > 0; left--) {
            code = code * 27 + 1 + upTo(5);
        }
        return code;
    }

    private int ask() {
        switch (upTo(6)) {
            case 0: {
                int i = near(0, 60);
                return compare("cell(" + i + ")", x.cell(i), model.cell(i));
            }
            case 1: {
                int line = near(0, 6);
                int i = near(0, 20);
                return compare("line(" + line + ", " + i + ")", x.line(line, i), model.line(line, i));
            }
            case 2: {
                int k = near(0, 8);
                int what = near(0, 5);
                return compare("ofRule(" + k + ", " + what + ")", x.ofRule(k, what), model.ofRule(k, what));
            }
            case 3: {
                int cell = near(0, 63);
                return compare("by(" + cell + ")", x.by(cell), model.by(cell));
            }
            default: {
                int what = near(0, 10);
                return compare("told(" + what + ")", x.told(what), model.told(what));
            }
        }
    }

    private int askRead() {
        switch (upTo(3)) {
            case 0:
                return compare("read()", x.read(), model.read());
            case 1:
                return compare("fault()", x.fault(), model.fault());
            default: {
                int i = near(0, 20);
                return compare("sign(" + i + ")", x.sign(i), model.sign(i));
            }
        }
    }
}
