import java.util.ArrayList;
import java.util.List;

/** Promise 5: drift. */
public final class DriftTest {
    private static final Due due = new Due("DriftTest");

    public static void main(String[] args) {
        byHand();
        howMany();
        seeds();
        lettersTaken();
        cellTaken();
        takenAmongThemselves();
        twelveAlready();
        undone();
        due.close();
    }

    private static int lot(long[] state) {
        state[0] = state[0] * 16807 % 2147483647;
        return (int) state[0];
    }

    /** What a seed gives, one rule for each lot, whether it can be there or not. */
    private static List<String[]> lots(int seed, int n) {
        long[] state = {seed};
        List<String[]> all = new ArrayList<>();
        for (int i = 0; i < n; i++) {
            int many = 2 + lot(state) % 3;
            StringBuilder letters = new StringBuilder();
            for (int j = 0; j < many; j++) {
                letters.append((char) (97 + lot(state) % 5));
            }
            String cell = Integer.toString(30 + lot(state) % 30);
            String kind = Integer.toString(lot(state) % 5);
            all.add(new String[] {letters.toString(), cell, kind});
        }
        return all;
    }

    private static String shown(String[] rule) {
        return Due.code(rule[0]) + " " + rule[1] + " " + rule[2];
    }

    /** The rules there, and those of the lots that can be there beside them. */
    private static List<String> joined(List<String[]> there, List<String[]> lots) {
        List<String[]> all = new ArrayList<>(there);
        for (String[] lot : lots) {
            boolean free = all.stream().noneMatch(r -> r[0].equals(lot[0]) || r[1].equals(lot[1]));
            if (free && all.size() < 12) {
                all.add(lot);
            }
        }
        return all.stream().map(DriftTest::shown).toList();
    }

    private static void against(int n, int seed) {
        List<String> want = joined(List.of(), lots(seed, n));
        Dots x = new Dots();
        due.is("drift(" + n + ", " + seed + ")", x.drift(n, seed), want.size());
        due.is("the rules of drift(" + n + ", " + seed + ")", x.rules(), String.join(" / ", want));
    }

    /** Seed 1: X is 16807, 282475249, 1622650073, 984943658, 1144108930, 470211272. */
    private static void byHand() {
        due.says("2 and X left over by 3 letters, each 97 and X left over by 5; CELL 30 and X left over by 30; KIND X left over by 5");
        Dots x = new Dots();
        due.is("drift(1, 1)", x.drift(1, 1), 1);
        // 16807 by 3 leaves 1: three letters; by 5: 4, 3, 3: edd; 1144108930 by 30: 10; 470211272 by 5: 2
        due.is("the rule", x.rules(), Due.code("edd") + " 40 2");
    }

    private static void howMany() {
        due.says("BY LOTS of a SEED, n RULES more");
        Dots more = new Dots().withRule("zz", 59, 4).withRule("zzz", 58, 3);
        List<String[]> there = new ArrayList<>();
        there.add(new String[] {"zz", "59", "4"});
        there.add(new String[] {"zzz", "58", "3"});
        due.is("drift(4, 21) beside two", more.drift(4, 21), joined(there, lots(21, 4)).size() - 2);
        due.is("those that were there, and those of the lots behind", more.rules(), String.join(" / ", joined(there, lots(21, 4))));
        due.says("n RULES (1 .. 12) BY LOTS of a SEED (1 .. 999999): how many came. OUTSIDE.");
        int[] none = {Integer.MIN_VALUE, -1, 0, 13, Integer.MAX_VALUE};
        for (int n : none) {
            Dots x = new Dots();
            due.is("drift(" + n + ", 5)", x.drift(n, 5), RaisedDots.OUTSIDE);
            due.is("RULES then", x.told(0), 0);
        }
        for (int n = 1; n <= 12; n++) {
            against(n, 5);
        }
    }

    private static void seeds() {
        due.says("X (the SEED at first) becomes what is left of (X times 16807) by 2147483647 ahead of each number wanted");
        int[] none = {Integer.MIN_VALUE, -1, 0, 1000000, Integer.MAX_VALUE};
        for (int seed : none) {
            Dots x = new Dots();
            due.is("drift(3, " + seed + ")", x.drift(3, seed), RaisedDots.OUTSIDE);
            due.is("RULES then", x.told(0), 0);
        }
        int[] some = {1, 2, 7, 99, 127773, 127774, 500000, 999998, 999999};
        for (int seed : some) {
            against(1, seed);
            against(12, seed);
        }
        Dots x = new Dots();
        x.drift(2, 77);
        String first = x.rules();
        x.undo();
        x.drift(3, 78);
        x.undo();
        x.drift(2, 77);
        due.is("the same seed gives the same, whatever came earlier", x.rules(), first);
    }

    private static void lettersTaken() {
        due.says("it is there, if it can be.");
        Dots x = new Dots().withRule("edd", 41, 0);
        due.is("drift(1, 1), its letters taken", x.drift(1, 1), 0);
        due.is("the rules", x.rules(), Due.code("edd") + " 41 0");
        due.is("it can be undone all the same", x.told(10), 2);
        List<String[]> there = new ArrayList<>();
        there.add(new String[] {"edd", "41", "0"});
        List<String> want = joined(there, lots(1, 3));
        Dots y = new Dots().withRule("edd", 41, 0);
        due.is("drift(3, 1), the first one's letters taken", y.drift(3, 1), want.size() - 1);
        due.is("those behind come as they would", y.rules(), String.join(" / ", want));
    }

    private static void cellTaken() {
        due.says("it is there, if it can be.");
        Dots x = new Dots().withRule("zz", 40, 0);
        due.is("drift(1, 1), its cell taken", x.drift(1, 1), 0);
        due.is("the rules", x.rules(), Due.code("zz") + " 40 0");
        List<String[]> there = new ArrayList<>();
        there.add(new String[] {"zz", "40", "0"});
        List<String> want = joined(there, lots(1, 3));
        Dots y = new Dots().withRule("zz", 40, 0);
        due.is("drift(3, 1), the first one's cell taken", y.drift(3, 1), want.size() - 1);
        due.is("those behind come as they would", y.rules(), String.join(" / ", want));
        Dots z = new Dots();
        due.is("drift(1, 1)", z.drift(1, 1), 1);
        due.is("the same again", z.drift(1, 1), 0);
    }

    /** Two of the same lots with one cell, or the same letters: the earlier one is there. */
    private static void takenAmongThemselves() {
        due.says("No two have one CELL, or the same letters.");
        int byCell = 0;
        int byLetters = 0;
        for (int seed = 1; seed <= 1000; seed++) {
            List<String[]> lots = lots(seed, 12);
            long cells = lots.stream().map(r -> r[1]).distinct().count();
            long letters = lots.stream().map(r -> r[0]).distinct().count();
            if (cells < 12 && letters == 12 && byCell < 5) {
                byCell++;
                against(12, seed);
            }
            if (cells == 12 && letters < 12 && byLetters < 5) {
                byLetters++;
                against(12, seed);
            }
        }
        due.is("seeds with one cell twice", byCell, 5);
        due.is("seeds with the same letters twice", byLetters, 5);
    }

    private static void twelveAlready() {
        due.says("RULES (12 at most; none at first)");
        Dots x = new Dots();
        for (int k = 0; k < 11; k++) {
            x.rule(Due.code("za") + k, 30 + k, 0);
        }
        due.is("drift(12, 5) with room for one", x.drift(12, 5), 1);
        due.is("RULES", x.told(0), 12);
        due.is("drift(12, 6) with twelve: none, but not refused", x.drift(12, 6), 0);
        due.is("RULES", x.told(0), 12);
        due.is("can be undone", x.told(10), 8);
        due.is("drift(1, 1) with twelve", States.FULL.make().drift(1, 1), 0);
    }

    private static void undone() {
        due.says("the latest of rule(), drop(), set(), drift(), text(), wipe() that was not refused");
        Dots x = new Dots().withRule("zz", 40, 0);
        x.drift(12, 5);
        due.is("all of it at once", x.undo(), 1);
        due.is("the rules", x.rules(), Due.code("zz") + " 40 0");
        x.drift(1, 1);
        due.is("one of which none came", x.undo(), 1);
        due.is("the rules", x.rules(), Due.code("zz") + " 40 0");
    }
}
