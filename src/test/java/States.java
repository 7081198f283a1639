/** Objects in the states at whose edges calls are refused. */
final class States {
    /** Nothing there, nothing kept, nothing to be undone. */
    static final Dots.Maker NEW = Dots::new;

    /** Some of everything; image 0 kept, 1 not; three calls can be undone. */
    static final Dots.Maker SOME = States::some;

    /** As SOME, but just kept: nothing can be undone. */
    static final Dots.Maker KEPT = () -> {
        Dots x = some();
        x.keep(0);
        return x;
    };

    /** As many as can be: 12 rules, 120 signs, 240 cells to be read, 8 calls to be undone; both images kept. */
    static final Dots.Maker FULL = States::full;

    /** As SOME, but what is to be read has a fault. */
    static final Dots.Maker FAULTY = () -> some().felt(63);

    static final Dots.Maker[] ALL = {NEW, SOME, KEPT, FULL, FAULTY};
    static final String[] NAMES = {"NEW", "SOME", "KEPT", "FULL", "FAULTY"};
    /** How many rules there are in each of ALL. */
    static final int[] RULES = {0, 3, 3, 12, 3};

    private States() {
    }

    private static Dots some() {
        Dots x = new Dots().withRule("aa", 30, 0).withRule("ab", 31, 1).typed("aa b");
        x.set(0, 9);
        x.set(1, 3);
        x.keep(0);
        x.withRule("ac", 32, 2);
        x.typed("ac");
        return x.felt(60, 1, 30, 27, 61, 5, 62, 31);
    }

    private static Dots full() {
        Dots x = new Dots().typed("Z 1");
        x.keep(1);
        for (int k = 0; k < 12; k++) {
            x.rule(Due.code("aa") + k, 30 + k, k % 5);
        }
        x.set(0, 7);
        x.keep(0);
        for (int i = 0; i < 13; i++) {
            x.typed("aab 1.5, ");
        }
        for (int i = 0; i < 30; i++) {
            x.felt(60, 1, 30, 27, 61, 5, 62, 31);
        }
        return x;
    }
}
