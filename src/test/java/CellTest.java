/** Promise 10: cell. */
public final class CellTest {
    private static final Due due = new Due("CellTest");

    public static void main(String[] args) {
        below();
        lastAndBeyond();
        most();
        due.close();
    }

    private static void below() {
        due.says("CELL i of THE TEXT; NONE: not so many. OUTSIDE: below 0.");
        for (Dots.Maker state : States.ALL) {
            due.is("cell(-1)", state.make().cell(-1), RaisedDots.OUTSIDE);
            due.is("cell(MIN_VALUE)", state.make().cell(Integer.MIN_VALUE), RaisedDots.OUTSIDE);
        }
    }

    private static void lastAndBeyond() {
        due.says("CELL i of THE TEXT; NONE: not so many.");
        String[] texts = {"", "a", " ", "ab", "A", "AB", "1", "1a", "a b"};
        int[] counts = {0, 1, 1, 2, 2, 4, 2, 4, 3};
        int[] lasts = {-1, 1, 0, 2, 1, 2, 1, 1, 2};
        for (int i = 0; i < texts.length; i++) {
            Dots x = Due.typed(texts[i]);
            if (counts[i] > 0) {
                due.is("the last of '" + texts[i] + "'", x.cell(counts[i] - 1), lasts[i]);
            }
            due.is("one beyond '" + texts[i] + "'", x.cell(counts[i]), RaisedDots.NONE);
            due.is("far beyond '" + texts[i] + "'", x.cell(Integer.MAX_VALUE), RaisedDots.NONE);
        }
        Dots x = Due.typed("abcd");
        x.cell(3);
        x.wipe();
        x.text(101);
        due.is("cell(0) of a shorter text", x.cell(0), 5);
        due.is("cell(1), which the longer one had", x.cell(1), RaisedDots.NONE);
    }

    private static void most() {
        due.says("CELL i of THE TEXT; NONE: not so many.");
        Dots capitals = Due.typed("1A".repeat(60));
        due.is("cell(238)", capitals.cell(238), 60);
        due.is("cell(239)", capitals.cell(239), 1);
        due.is("cell(240)", capitals.cell(240), RaisedDots.NONE);
        Dots letters = Due.typed("1a".repeat(60));
        due.is("cell(238)", letters.cell(238), 62);
        due.is("cell(239)", letters.cell(239), 1);
        due.is("cell(240)", letters.cell(240), RaisedDots.NONE);
    }
}
