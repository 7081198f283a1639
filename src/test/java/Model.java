import java.util.ArrayDeque;
import java.util.ArrayList;
import java.util.Deque;
import java.util.List;
import java.util.regex.Matcher;
import java.util.regex.Pattern;

/** The document once more, written with strings and patterns, to compare RaisedDots with. */
final class Model {
    record Rule(String letters, int cell, int kind) { }

    record State(List<Rule> rules, int width, int height, String text) { }

    private State now = new State(List.of(), 20, 5, "");
    private final Deque<State> past = new ArrayDeque<>();
    private final State[] images = new State[2];
    private final List<Integer> felt = new ArrayList<>();

    // ---- rules

    int rule(int code, int cell, int kind) {
        String letters = lettersOf(code);
        if (!letters.matches("[a-z]{2,4}") || cell < 30 || cell > 59 || kind < 0 || kind > 4) {
            return RaisedDots.OUTSIDE;
        }
        if (taken(now.rules, letters, cell)) {
            return RaisedDots.NOT;
        }
        if (now.rules.size() == 12) {
            return RaisedDots.FULL;
        }
        List<Rule> rules = new ArrayList<>(now.rules);
        rules.add(new Rule(letters, cell, kind));
        become(new State(rules, now.width, now.height, now.text));
        return rules.size() - 1;
    }

    int drop(int k) {
        if (k < 0 || k >= now.rules.size()) {
            return RaisedDots.UNKNOWN;
        }
        List<Rule> rules = without(k);
        become(new State(rules, now.width, now.height, now.text));
        return rules.size();
    }

    int set(int what, int v) {
        if (what == 0 && v >= 4 && v <= 40) {
            int was = now.width;
            become(new State(now.rules, v, now.height, now.text));
            return was;
        }
        if (what == 1 && v >= 1 && v <= 20) {
            int was = now.height;
            become(new State(now.rules, now.width, v, now.text));
            return was;
        }
        return RaisedDots.OUTSIDE;
    }

    int drift(int n, int seed) {
        if (n < 1 || n > 12 || seed < 1 || seed > 999999) {
            return RaisedDots.OUTSIDE;
        }
        long[] x = {seed};
        List<Rule> rules = new ArrayList<>(now.rules);
        for (int i = 0; i < n; i++) {
            StringBuilder letters = new StringBuilder();
            for (int left = 2 + lot(x, 3); left > 0; left--) {
                letters.append((char) (97 + lot(x, 5)));
            }
            int cell = 30 + lot(x, 30);
            int kind = lot(x, 5);
            if (rules.size() < 12 && !taken(rules, letters.toString(), cell)) {
                rules.add(new Rule(letters.toString(), cell, kind));
            }
        }
        int came = rules.size() - now.rules.size();
        become(new State(rules, now.width, now.height, now.text));
        return came;
    }

    // ---- the text

    int text(int sign) {
        if (sign < 0 || sign > 127 || !Character.toString(sign).matches("[a-zA-Z0-9., -]")) {
            return RaisedDots.OUTSIDE;
        }
        if (now.text.length() == 120) {
            return RaisedDots.FULL;
        }
        become(new State(now.rules, now.width, now.height, now.text + (char) sign));
        return now.text.length();
    }

    int wipe() {
        int had = now.text.length();
        become(new State(now.rules, now.width, now.height, ""));
        return had;
    }

    int undo() {
        if (past.isEmpty()) {
            return RaisedDots.NOT;
        }
        now = past.pop();
        return past.size();
    }

    int told(int what) {
        return switch (what) {
            case 0 -> now.rules.size();
            case 1 -> now.width;
            case 2 -> now.height;
            case 3 -> now.text.length();
            case 4 -> (int) Pattern.compile("[a-zA-Z]+").matcher(now.text).results().count();
            case 5 -> put(now.rules, null).size();
            case 6 -> fewest();
            case 7 -> lines().size();
            case 8 -> (lines().size() + now.height - 1) / now.height;
            case 9 -> felt.size();
            case 10 -> past.size();
            default -> RaisedDots.OUTSIDE;
        };
    }

    int cell(int i) {
        return at(put(now.rules, null), i);
    }

    int line(int line, int i) {
        if (line < 0 || i < 0) {
            return RaisedDots.OUTSIDE;
        }
        List<List<Integer>> lines = lines();
        return line < lines.size() ? at(lines.get(line), i) : RaisedDots.NONE;
    }

    int ofRule(int k, int what) {
        if (k < 0 || k >= now.rules.size()) {
            return RaisedDots.UNKNOWN;
        }
        Rule rule = now.rules.get(k);
        List<Integer> places = new ArrayList<>();
        put(now.rules, (r, place) -> {
            if (r == rule) {
                places.add(place);
            }
        });
        return switch (what) {
            case 0 -> Due.code(rule.letters);
            case 1 -> rule.cell;
            case 2 -> rule.kind;
            case 3 -> places.size();
            case 4 -> put(without(k), null).size();
            case 5 -> places.isEmpty() ? RaisedDots.NONE : places.get(0);
            default -> RaisedDots.OUTSIDE;
        };
    }

    int by(int cell) {
        if (cell < 0 || cell > 63) {
            return RaisedDots.OUTSIDE;
        }
        return now.rules.stream().map(Rule::cell).toList().indexOf(cell);
    }

    // ---- reading back

    int feel(int cell) {
        if (cell < 0 || cell > 63) {
            return RaisedDots.OUTSIDE;
        }
        if (felt.size() == 240) {
            return RaisedDots.FULL;
        }
        felt.add(cell);
        return felt.size();
    }

    int feelAll() {
        felt.clear();
        felt.addAll(put(now.rules, null));
        return felt.size();
    }

    int read() {
        Read read = readBack();
        return read.fault == 0 ? read.signs.length() : -10 - read.fault;
    }

    int fault() {
        return readBack().at;
    }

    int sign(int i) {
        if (i < 0) {
            return RaisedDots.OUTSIDE;
        }
        Read read = readBack();
        return read.fault == 0 && i < read.signs.length() ? read.signs.charAt(i) : RaisedDots.NONE;
    }

    int rest() {
        int had = felt.size();
        felt.clear();
        return had;
    }

    // ---- images

    int keep(int i) {
        if (i != 0 && i != 1) {
            return RaisedDots.UNKNOWN;
        }
        images[i] = now;
        past.clear();
        return now.rules.size();
    }

    int goBack(int i) {
        if (i != 0 && i != 1) {
            return RaisedDots.UNKNOWN;
        }
        if (images[i] == null) {
            return RaisedDots.NOT;
        }
        now = images[i];
        past.clear();
        return now.rules.size();
    }

    // ---- how

    private interface Served {
        void by(Rule rule, int place);
    }

    private record Read(String signs, int fault, int at) { }

    private void become(State next) {
        past.push(now);
        if (past.size() > 8) {
            past.removeLast();
        }
        now = next;
    }

    private List<Rule> without(int k) {
        List<Rule> rules = new ArrayList<>(now.rules);
        rules.remove(k);
        return rules;
    }

    private static boolean taken(List<Rule> rules, String letters, int cell) {
        return rules.stream().anyMatch(r -> r.cell == cell || r.letters.equals(letters));
    }

    private static int lot(long[] x, int by) {
        x[0] = x[0] * 16807 % 2147483647;
        return (int) (x[0] % by);
    }

    private static int at(List<Integer> row, int i) {
        if (i < 0) {
            return RaisedDots.OUTSIDE;
        }
        return i < row.size() ? row.get(i) : RaisedDots.NONE;
    }

    private static String lettersOf(int code) {
        String letters = "";
        for (int left = code; left > 0; left /= 27) {
            letters = (char) (96 + left % 27) + letters;
        }
        return letters;
    }

    /** The text in parts that each are put by themselves: words, figures that belong together, other signs. */
    private static final Pattern PART = Pattern.compile("(?<word>[a-zA-Z]+)|(?<figures>[0-9]+(?:[.,][0-9]+)*)|(?<mark>[., -])");

    private List<Integer> put(List<Rule> rules, Served served) {
        List<Integer> cells = new ArrayList<>();
        Matcher part = PART.matcher(now.text);
        while (part.find()) {
            if (part.group("figures") != null) {
                cells.add(61);
                part.group().chars().forEach(c -> cells.add(c == '.' ? 27 : c == ',' ? 28 : c == '0' ? 10 : c - 48));
            } else if (part.group("mark") != null) {
                cells.add(part.group().equals(" ") ? 0 : 27 + ".,-".indexOf(part.group()));
            } else {
                cells.addAll(modes(part));
                cells.addAll(putWord(rules, small(part.group()), part.start(), served));
            }
        }
        return cells;
    }

    private List<Integer> modes(Matcher part) {
        List<Integer> cells = new ArrayList<>();
        if (now.text.substring(0, part.start() + 1).matches(".*[0-9][.,]?[a-j]")) {
            cells.add(62);
        }
        if (part.group().matches("[A-Z]{2,}")) {
            cells.add(60);
            cells.add(60);
        }
        return cells;
    }

    private static String small(String word) {
        return word.matches("[A-Z]{2,}") ? word.toLowerCase() : word;
    }

    private static boolean mayStand(Rule rule, String word, int at) {
        if (!word.startsWith(rule.letters, at)) {
            return false;
        }
        String ahead = word.substring(0, at);
        String behind = word.substring(at + rule.letters.length());
        String[] shapes = {".*;.*", ";", ";.+", ".+;", ".+;.+"};
        return (ahead + ";" + behind).matches(shapes[rule.kind]);
    }

    private static List<Integer> putWord(List<Rule> rules, String word, int start, Served served) {
        List<Integer> cells = new ArrayList<>();
        int at = 0;
        while (at < word.length()) {
            Rule best = null;
            for (Rule rule : rules) {
                if (mayStand(rule, word, at) && (best == null || rule.letters.length() > best.letters.length())) {
                    best = rule;
                }
            }
            if (best != null) {
                cells.add(best.cell);
                if (served != null) {
                    served.by(best, start + at);
                }
                at += best.letters.length();
                continue;
            }
            char sign = word.charAt(at);
            if (Character.isUpperCase(sign)) {
                cells.add(60);
            }
            cells.add(Character.toLowerCase(sign) - 96);
            at++;
        }
        return cells;
    }

    private int fewest() {
        int saved = 0;
        Matcher part = PART.matcher(now.text);
        while (part.find()) {
            if (part.group("word") != null) {
                String word = small(part.group());
                saved += putWord(now.rules, word, 0, null).size() - fewestOf(word);
            }
        }
        return put(now.rules, null).size() - saved;
    }

    /** From the left, each place with the fewest cells that lead to it. */
    private int fewestOf(String word) {
        int[] to = new int[word.length() + 1];
        java.util.Arrays.fill(to, 1000);
        to[0] = 0;
        for (int at = 0; at < word.length(); at++) {
            int own = Character.isUpperCase(word.charAt(at)) ? 2 : 1;
            to[at + 1] = Math.min(to[at + 1], to[at] + own);
            for (Rule rule : now.rules) {
                if (mayStand(rule, word, at)) {
                    int end = at + rule.letters.length();
                    to[end] = Math.min(to[end], to[at] + 1);
                }
            }
        }
        return to[word.length()];
    }

    private List<List<Integer>> lines() {
        List<List<Integer>> pieces = new ArrayList<>();
        pieces.add(new ArrayList<>());
        for (int cell : put(now.rules, null)) {
            if (cell == 0) {
                pieces.add(new ArrayList<>());
            } else {
                pieces.get(pieces.size() - 1).add(cell);
            }
        }
        pieces.removeIf(List::isEmpty);
        List<List<Integer>> lines = new ArrayList<>();
        for (List<Integer> piece : pieces) {
            List<Integer> last = lines.isEmpty() ? null : lines.get(lines.size() - 1);
            if (last != null && last.size() + 1 + piece.size() <= now.width) {
                last.add(0);
                last.addAll(piece);
                continue;
            }
            for (int from = 0; from < piece.size(); from += now.width) {
                lines.add(new ArrayList<>(piece.subList(from, Math.min(from + now.width, piece.size()))));
            }
        }
        return lines;
    }

    /** What can be read at one place; a rule's cell is a sign of the row behind 1000 there, a cell that is none X. */
    private static final Pattern READ = Pattern.compile("\\^\\^(?<big>[a-z\u1000-\u1040]+)|\\^(?<one>[a-z])"
        + "|#(?<figures>[a-j]+(?:[.,][a-j]+)*)(?<mark>[.,]?)(?<letters>;(?=[a-j\u1000-\u1040]))?|(?<plain>[a-z., \u1000-\u1040-])");

    private Read readBack() {
        StringBuilder row = new StringBuilder();
        for (int cell : felt) {
            row.append(shown(cell));
        }
        StringBuilder signs = new StringBuilder();
        Matcher matcher = READ.matcher(row);
        int at = 0;
        while (at < row.length()) {
            matcher.region(at, row.length());
            if (!matcher.lookingAt()) {
                return faultAt(row.toString(), at);
            }
            signs.append(signsOf(matcher));
            at = matcher.end();
        }
        return new Read(signs.toString(), 0, RaisedDots.NONE);
    }

    private char shown(int cell) {
        if (cell >= 1 && cell <= 26) {
            return (char) (96 + cell);
        }
        if (cell >= 30 && cell <= 59) {
            return by(cell) == RaisedDots.NONE ? 'X' : (char) (0x1000 + by(cell));
        }
        return cell == 0 ? ' ' : cell == 63 ? 'X' : cell >= 60 ? "^#;".charAt(cell - 60) : ".,-".charAt(cell - 27);
    }

    private String spelt(String row) {
        StringBuilder signs = new StringBuilder();
        for (char c : row.toCharArray()) {
            signs.append(c >= 0x1000 ? now.rules.get(c - 0x1000).letters : Character.toString(c));
        }
        return signs.toString();
    }

    private String signsOf(Matcher m) {
        if (m.group("big") != null) {
            return spelt(m.group("big")).toUpperCase();
        }
        if (m.group("one") != null) {
            return m.group("one").toUpperCase();
        }
        if (m.group("figures") != null) {
            StringBuilder signs = new StringBuilder();
            for (char c : m.group("figures").toCharArray()) {
                signs.append(c >= 'a' ? (char) ('0' + (c - 96) % 10) : c);
            }
            return signs + m.group("mark");
        }
        return spelt(m.group("plain"));
    }

    private static Read faultAt(String row, int at) {
        int place = at;
        if (row.startsWith("^^", at)) {
            place = at + 2;
        } else if (row.charAt(at) == '^' || row.charAt(at) == '#') {
            place = at + 1;
        }
        boolean none = place < row.length() && row.charAt(place) == 'X';
        return new Read("", none ? 1 : 2, place);
    }
}
