import java.util.HashMap;
import java.util.Map;

/**
 * All that can be asked of an object that a maker makes: in blocks of questions, each block of a new
 * object, because an object may be called 512 times only.
 */
final class Seen {
    private static final int AT_ONCE = 100;
    /** Four letters for each of 240 cells are the most answers that a row can have. */
    private static final int MOST_ANSWERS = 960;
    private static final Map<Dots.Maker, String> KNOWN = new HashMap<>();

    private final Dots.Maker maker;
    private final StringBuilder seen = new StringBuilder();
    private Dots x;
    private int left = 0;

    private Seen(Dots.Maker maker) {
        this.maker = maker;
    }

    /** What is asked without changing it, then what is undone step by step, then what the images bring back. */
    static String all(Dots.Maker maker) {
        Seen now = new Seen(maker);
        now.book();
        now.rest();
        for (int steps = 1; steps <= 9; steps++) {
            now.seen.append(undone(maker, steps));
        }
        for (int i = 0; i <= 1; i++) {
            now.seen.append(wentBack(maker, i));
        }
        return now.seen.toString();
    }

    /** The same, kept for makers that are asked for often. */
    static String allKnown(Dots.Maker maker) {
        return KNOWN.computeIfAbsent(maker, Seen::all);
    }

    /** RULES, W, P and THE TEXT alone. */
    static String book(Dots.Maker maker) {
        Seen now = new Seen(maker);
        now.book();
        return now.seen.toString();
    }

    private static String undone(Dots.Maker maker, int steps) {
        int[] answer = new int[1];
        String then = book(() -> {
            Dots x = maker.make();
            for (int i = 0; i < steps; i++) {
                answer[0] = x.undo();
            }
            return x;
        });
        return "\nundo " + answer[0] + ": " + then;
    }

    private static String wentBack(Dots.Maker maker, int image) {
        int[] answer = new int[1];
        String then = book(() -> {
            Dots x = maker.make();
            answer[0] = x.goBack(image);
            return x;
        });
        return "\ngoBack " + answer[0] + ": " + then;
    }

    private int ask(Dots.Call question) {
        if (left == 0) {
            x = maker.make();
            left = AT_ONCE;
        }
        left--;
        int answer = question.on(x);
        seen.append(answer).append(' ');
        return answer;
    }

    private void book() {
        for (int i = 0; i <= 10; i++) {
            int what = i;
            ask(y -> y.told(what));
        }
        for (int i = 0; i < 3 * 13; i++) {
            int k = i / 3;
            int what = i % 3;
            ask(y -> y.ofRule(k, what));
        }
        untilNone((y, i) -> y.cell(i));
    }

    private void rest() {
        for (int i = 0; i < 3 * 13; i++) {
            int k = i / 3;
            int what = 3 + i % 3;
            ask(y -> y.ofRule(k, what));
        }
        for (int i = 0; i <= 63; i++) {
            int cell = i;
            ask(y -> y.by(cell));
        }
        boolean more = true;
        for (int i = 0; more && i <= MOST_ANSWERS; i++) {
            int line = i;
            more = untilNone((y, j) -> y.line(line, j)) > 0;
        }
        ask(y -> y.read());
        ask(y -> y.fault());
        untilNone((y, i) -> y.sign(i));
    }

    private interface Numbered {
        int on(Dots x, int i);
    }

    /** How many answers there were ahead of NONE. */
    private int untilNone(Numbered question) {
        for (int count = 0; count <= MOST_ANSWERS; count++) {
            int i = count;
            if (ask(y -> question.on(y, i)) == RaisedDots.NONE) {
                return count;
            }
        }
        throw new IllegalStateException("a row without an end");
    }
}
