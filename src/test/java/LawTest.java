import java.util.ArrayList;
import java.util.List;
import java.util.Random;

/** What must hold between the answers of different calls, for texts and rules by a fixed chance: no model is needed to see it. */
public final class LawTest {
    private static final Due due = new Due("LawTest");
    private static final String[] SIGNS = {"aaaabbbbccddeeABE", "abcdeABCDE  ", "aabbccdd112.,- ", "12.,ajkAJK", "abcde", "ABC abc 1.a"};

    private final Random chance;
    private final String text;
    private final int seed;
    private final int rules;

    private LawTest(long number) {
        chance = new Random(number);
        String signs = SIGNS[(int) (number % SIGNS.length)];
        int length = number % 7 == 0 ? 120 : chance.nextInt(60);
        StringBuilder all = new StringBuilder();
        for (int i = 0; i < length; i++) {
            all.append(signs.charAt(chance.nextInt(signs.length())));
        }
        text = all.toString();
        seed = 1 + chance.nextInt(999999);
        rules = chance.nextInt(13);
    }

    public static void main(String[] args) {
        for (long number = 0; number < 1200; number++) {
            LawTest law = new LawTest(number);
            law.readBack();
            law.rulesServe();
            law.lines();
            law.fewest();
        }
        due.close();
    }

    private Dots made() {
        Dots x = new Dots();
        if (rules > 0) {
            x.drift(rules, seed);
        }
        return x.typed(text);
    }

    private String name() {
        return "'" + text + "' by drift(" + rules + ", " + seed + ")";
    }

    /** What was put into cells is read back as it was. */
    private void readBack() {
        due.says("All CELLS of THE TEXT come to be read instead: how many.");
        Dots x = made();
        due.is("feelAll() of " + name(), x.feelAll(), x.told(5));
        due.is("read() of " + name(), x.read(), text.length());
        due.is("fault() of " + name(), x.fault(), RaisedDots.NONE);
        due.is("the signs of " + name(), x.signs(), text);
    }

    /** A rule's cell is found as often as it serves; without it there are as many cells as when it is dropped. */
    private void rulesServe() {
        due.says("3 how often it serves in THE TEXT, 4 how many CELLS it would have without it");
        Dots x = made();
        String cells = " " + x.cells().replace(" ", "  ") + " ";
        for (int k = 0; k < x.told(0); k++) {
            String cell = " " + x.ofRule(k, 1) + " ";
            int often = (cells.length() - cells.replace(cell, "").length()) / cell.length();
            due.is("how often rule " + k + " serves in " + name(), x.ofRule(k, 3), often);
            int without = x.ofRule(k, 4);
            x.drop(k);
            due.is("without rule " + k + ": " + name(), x.told(5), without);
            x.undo();
        }
    }

    /** Lines put one behind the other are the pieces again; a line is not too long, and its first piece had no room ahead. */
    private void lines() {
        due.says("a PIECE goes on the line, behind one blank, if there is room, else on the next");
        Dots x = made();
        int width = 4 + chance.nextInt(37);
        int height = 1 + chance.nextInt(20);
        x.set(0, width);
        x.set(1, height);
        List<String> want = laid(made().cells(), width);
        due.is("lines of " + width + " of " + name(), x.lines(), String.join(" / ", want));
        due.is("how many lines", x.told(7), want.size());
        int pages = x.told(8);
        boolean fits = pages * height >= want.size() && (pages - 1) * height < Math.max(1, want.size());
        due.is("PAGES of " + height + " for " + want.size() + " lines", fits ? 1 : 0, 1);
    }

    private static List<String> laid(String cells, int width) {
        List<String> lines = new ArrayList<>();
        List<String> line = new ArrayList<>();
        for (String piece : (" " + cells + " ").split("( 0(?= ))+ | $|^ ")) {
            List<String> left = new ArrayList<>(List.of(piece.trim().split(" ")));
            if (piece.isBlank()) {
                continue;
            }
            if (!line.isEmpty() && line.size() + 1 + left.size() <= width) {
                line.add("0");
            } else if (!line.isEmpty()) {
                lines.add(String.join(" ", line));
                line.clear();
            }
            while (left.size() > width) {
                lines.add(String.join(" ", left.subList(0, width)));
                left = new ArrayList<>(left.subList(width, left.size()));
            }
            line.addAll(left);
        }
        if (!line.isEmpty()) {
            lines.add(String.join(" ", line));
        }
        return lines;
    }

    /** By trying all choices, word by word. */
    private void fewest() {
        due.says("any of the RULES that may be there, or the letter, may be chosen.");
        Dots x = made();
        int cells = x.told(5);
        List<String> letters = new ArrayList<>();
        List<Integer> kinds = new ArrayList<>();
        for (int k = 0; k < x.told(0); k++) {
            letters.add(lettersOf(x.ofRule(k, 0)));
            kinds.add(x.ofRule(k, 2));
        }
        int saved = 0;
        for (String word : text.split("[^a-zA-Z]+")) {
            if (word.length() > 14) {
                return;
            }
            if (!word.isEmpty()) {
                Dots alone = new Dots();
                if (rules > 0) {
                    alone.drift(rules, seed);
                }
                alone.typed(word);
                boolean big = word.matches("[A-Z]{2,}");
                saved += alone.told(5) - (big ? 2 : 0) - best(big ? word.toLowerCase() : word, 0, letters, kinds);
            }
        }
        due.is("FEWEST of " + name(), x.told(6), cells - saved);
    }

    private static String lettersOf(int code) {
        return code == 0 ? "" : lettersOf(code / 27) + (char) (96 + code % 27);
    }

    private static int best(String word, int at, List<String> letters, List<Integer> kinds) {
        if (at == word.length()) {
            return 0;
        }
        int best = best(word, at + 1, letters, kinds) + (Character.isUpperCase(word.charAt(at)) ? 2 : 1);
        for (int k = 0; k < letters.size(); k++) {
            int end = at + letters.get(k).length();
            boolean ahead = at > 0;
            boolean behind = end < word.length();
            int here = !ahead && !behind ? 1 : !ahead ? 2 : !behind ? 3 : 4;
            if (word.startsWith(letters.get(k), at) && (kinds.get(k) == 0 || kinds.get(k) == here)) {
                best = Math.min(best, 1 + best(word, end, letters, kinds));
            }
        }
        return best;
    }
}
