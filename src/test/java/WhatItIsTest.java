/** "What it is": the document's first sentence, part by part, on one text that has something of each. */
public final class WhatItIsTest {
    private static final Due due = new Due("WhatItIsTest");
    private static final String TEXT = "stop unstopped haunted STOP 3b Stu";
    private static final String CELLS = "31 0 32 30 15 16 16 33 0 8 1 21 34 4 0 60 60 31 0 61 3 62 2 0 60 19 20 21";

    public static void main(String[] args) {
        cells();
        signsAhead();
        linesAndPages();
        readBack();
        fewest();
        served();
        others();
        due.close();
    }

    private static Dots made() {
        return new Dots().withRule("st", 30, 0).withRule("stop", 31, 1).withRule("un", 32, 2).withRule("ed", 33, 3).withRule("nte", 34, 4).typed(TEXT);
    }

    private static void cells() {
        due.says("a text becomes cells to be felt, letter by letter or by short signs for several letters, as rules tell, "
            + "which hold in whole words, at their beginnings, their ends, within, or anywhere, longest first");
        due.is("the cells", made().cells(), CELLS);
        due.is("the cells, letter by letter", Due.typed("stop").cells(), "19 20 15 16");
        due.is("to be felt", made().feelAll(), 28);
    }

    private static void signsAhead() {
        due.says("figures behind a sign of their own, capitals behind another one, a word in capitals behind two; modes closed where letters follow figures");
        due.is("figures", Due.typed("30").cells(), "61 3 10");
        due.is("a capital", Due.typed("Stu").cells(), "60 19 20 21");
        due.is("a word in capitals", Due.typed("STU").cells(), "60 60 19 20 21");
        due.is("letters behind figures", Due.typed("3b").cells(), "61 3 62 2");
    }

    private static void linesAndPages() {
        due.says("lines and pages of so many cells, words not parted unless they are longer than a line");
        laid(9, 2, "31 0 32 30 15 16 16 33 / 8 1 21 34 4 0 60 60 31 / 61 3 62 2 0 60 19 20 21", 2);
        laid(6, 2, "31 / 32 30 15 16 16 33 / 8 1 21 34 4 / 60 60 31 / 61 3 62 2 / 60 19 20 21", 3);
        laid(4, 20, "31 / 32 30 15 16 / 16 33 / 8 1 21 34 / 4 / 60 60 31 / 61 3 62 2 / 60 19 20 21", 1);
    }

    private static void laid(int width, int height, String lines, int pages) {
        Dots x = made();
        x.set(0, width);
        x.set(1, height);
        due.is("lines of " + width, x.lines(), lines);
        due.is("pages of " + height, x.told(8), pages);
    }

    private static void readBack() {
        due.says("cells read back into text, with the first that cannot be, and why");
        Dots x = made();
        x.feelAll();
        due.is("the signs", x.signs(), TEXT);
        x.feel(63);
        due.is("why it cannot be", x.read(), -11);
        due.is("the first that cannot be", x.fault(), 28);
        Dots y = made();
        y.feelAll();
        y.felt(62, 63);
        due.is("why it cannot be", y.read(), -12);
        due.is("the first that cannot be", y.fault(), 28);
    }

    private static void fewest() {
        due.says("the fewest cells that any choice of rules could do with");
        due.is("no choice could do with fewer", made().told(6), 28);
        Dots x = new Dots().withRule("ab", 30, 0).withRule("bcd", 31, 0).typed("abcd");
        due.is("longest first from the left", x.told(5), 3);
        due.is("another choice", x.told(6), 2);
    }

    private static void served() {
        due.says("which rules served, how often, what would be without one");
        int[] often = {1, 2, 1, 1, 1};
        int[] without = {29, 32, 29, 29, 29};
        int[] first = {7, 0, 5, 12, 18};
        Dots x = made();
        for (int k = 0; k < often.length; k++) {
            due.is("how often rule " + k + " served", x.ofRule(k, 3), often[k]);
            due.is("cells without rule " + k, x.ofRule(k, 4), without[k]);
            due.is("where rule " + k + " served first", x.ofRule(k, 5), first[k]);
        }
    }

    private static void others() {
        due.says("rules by lots, what was done undone, images.");
        Dots x = made();
        x.keep(0);
        due.is("a rule by lots", x.drift(1, 1), 1);
        due.is("which it is", x.ofRule(5, 0), Due.code("edd"));
        x.wipe();
        due.is("what was done undone", x.undo(), 1);
        due.is("the text is there again", x.told(3), TEXT.length());
        due.is("the rule, too", x.undo(), 0);
        due.is("rules", x.told(0), 5);
        x.drop(0);
        x.wipe();
        due.is("an image", x.goBack(0), 5);
        due.is("the cells again", x.cells(), CELLS);
    }
}
