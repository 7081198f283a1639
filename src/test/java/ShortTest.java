/** All short texts, and all short rows of cells, of the signs and cells that matter to each other, against the model. */
public final class ShortTest {
    private static final Due due = new Due("ShortTest");

    public static void main(String[] args) {
        due.says("PUT INTO CELLS, from the left.");
        texts("1.,aA", 6, "");
        texts("1.a kK-0,", 4, "");
        texts("abA1 ", 5, "aa 0/ab 2/bab 3/ba 4/aba 1");
        texts("abB", 7, "aaa 0/ab 2/bab 3/ba 4/bb 1/abba 0");
        due.says("READ BACK, CELL by CELL");
        rows(new int[] {1, 11, 27, 30, 60, 61, 62, 63}, 5);
        rows(new int[] {0, 1, 10, 11, 26, 27, 28, 29, 30, 31, 59, 60, 61, 62, 63}, 4);
        due.close();
    }

    private static void rules(Dots x, Model model, String rules) {
        int cell = 30;
        for (String rule : rules.isEmpty() ? new String[0] : rules.split("/")) {
            String[] parts = rule.split(" ");
            int kind = Integer.parseInt(parts[1]);
            x.rule(Due.code(parts[0]), cell, kind);
            model.rule(Due.code(parts[0]), cell, kind);
            cell++;
        }
    }

    private static void texts(String signs, int length, String rules) {
        int count = (int) Math.pow(signs.length(), length);
        for (int number = 0; number < count; number++) {
            Dots x = new Dots();
            Model model = new Model();
            rules(x, model, rules);
            StringBuilder text = new StringBuilder();
            for (int left = number, i = 0; i < length; i++, left /= signs.length()) {
                char sign = signs.charAt(left % signs.length());
                text.append(sign);
                x.text(sign);
                model.text(sign);
            }
            compare(text.toString(), x, model);
        }
    }

    private static void compare(String text, Dots x, Model model) {
        int cells = model.told(5);
        StringBuilder want = new StringBuilder();
        for (int i = 0; i < cells; i++) {
            want.append(i == 0 ? "" : " ").append(model.cell(i));
        }
        due.is("the cells of '" + text + "'", x.cells(), want.toString());
        due.is("WORDS of '" + text + "'", x.told(4), model.told(4));
        due.is("FEWEST of '" + text + "'", x.told(6), model.told(6));
        x.feelAll();
        due.is("'" + text + "' read back", x.signs(), text);
        due.is("SIGNS of '" + text + "'", x.read(), text.length());
    }

    /** Cells 30 and 59 stand for rules, 31 does not. */
    private static void rows(int[] cells, int length) {
        int count = (int) Math.pow(cells.length, length);
        for (int number = 0; number < count; number++) {
            Dots x = new Dots();
            Model model = new Model();
            x.rule(Due.code("ab"), 30, 1);
            model.rule(Due.code("ab"), 30, 1);
            x.rule(Due.code("wxyz"), 59, 0);
            model.rule(Due.code("wxyz"), 59, 0);
            StringBuilder row = new StringBuilder();
            for (int left = number, i = 0; i < length; i++, left /= cells.length) {
                int cell = cells[left % cells.length];
                row.append(cell).append(' ');
                x.feel(cell);
                model.feel(cell);
            }
            due.is("read() of " + row, x.read(), model.read());
            due.is("fault() of " + row, x.fault(), model.fault());
            due.is("the signs of " + row, x.signs(), signs(model));
        }
    }

    private static String signs(Model model) {
        StringBuilder all = new StringBuilder();
        int count = Math.max(0, model.read());
        for (int i = 0; i < count; i++) {
            all.append((char) model.sign(i));
        }
        return all.toString();
    }
}
