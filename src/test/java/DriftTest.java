import java.util.ArrayList;
import java.util.List;

/** Promise 5: drift. */
public final class DriftTest {
    private static final Due due = new Due("DriftTest");

    public static void main(String[] args) {
        byHand();
        against(1, 12);
        against(7, 12);
        against(99, 5);
        against(999999, 12);
        full();
        outside();
        due.close();
    }

    /** Seed 1: X is 16807, 282475249, 1622650073, 984943658, 1144108930, 470211272. */
    private static void byHand() {
        RaisedDots x = new RaisedDots();
        due.is("drift(1, 1)", x.drift(1, 1), 1);
        // 16807 by 3 leaves 1: three letters; by 5: 4, 3, 3: edd; 1144108930 by 30: 10; 470211272 by 5: 2
        due.is("the rule", Due.rules(x), Due.code("edd") + " 40 2");
        due.is("the same letters and cell are there", x.drift(1, 1), 0);
        due.is("told(0)", x.told(0), 1);
        due.is("none came, yet it can be undone", x.told(10), 2);
        due.is("undo()", x.undo(), 1);
        due.is("undo()", x.undo(), 0);
        due.is("told(0)", x.told(0), 0);
    }

    private static void against(int seed, int n) {
        long[] state = {seed};
        List<String> want = new ArrayList<>();
        List<String> letters = new ArrayList<>();
        List<Integer> cells = new ArrayList<>();
        for (int i = 0; i < n; i++) {
            int many = 2 + lot(state) % 3;
            StringBuilder word = new StringBuilder();
            for (int j = 0; j < many; j++) {
                word.append((char) (97 + lot(state) % 5));
            }
            int cell = 30 + lot(state) % 30;
            int kind = lot(state) % 5;
            if (!letters.contains(word.toString()) && !cells.contains(cell)) {
                letters.add(word.toString());
                cells.add(cell);
                want.add(Due.code(word.toString()) + " " + cell + " " + kind);
            }
        }
        RaisedDots x = new RaisedDots();
        due.is("drift(" + n + ", " + seed + ")", x.drift(n, seed), want.size());
        due.is("its rules", Due.rules(x), String.join(" / ", want));
    }

    private static int lot(long[] state) {
        state[0] = state[0] * 16807 % 2147483647;
        return (int) state[0];
    }

    private static void full() {
        RaisedDots x = new RaisedDots();
        for (int k = 0; k < 11; k++) {
            x.rule(Due.code("z" + (char) (97 + k)), 30 + k, 0);
        }
        int came = x.drift(12, 5);
        due.is("no more than there is room for", came, 1);
        due.is("told(0)", x.told(0), 12);
        due.is("none when full, not refused", x.drift(12, 6), 0);
        due.is("told(10)", x.told(10), 8);
        x.undo();
        due.is("told(0)", x.told(0), 12);
        x.undo();
        due.is("all of a drift undone at once", x.told(0), 11);
    }

    private static void outside() {
        RaisedDots x = new RaisedDots();
        x.rule(28, 30, 0);
        int[] noNumbers = {Integer.MIN_VALUE, -1, 0, 13, Integer.MAX_VALUE};
        for (int n : noNumbers) {
            due.refused("drift(" + n + ", 1)", x, y -> y.drift(n, 1), RaisedDots.OUTSIDE);
        }
        int[] noSeeds = {Integer.MIN_VALUE, -1, 0, 1000000, Integer.MAX_VALUE};
        for (int seed : noSeeds) {
            due.refused("drift(1, " + seed + ")", x, y -> y.drift(1, seed), RaisedDots.OUTSIDE);
        }
    }
}
