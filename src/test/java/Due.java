import java.io.IOException;
import java.io.UncheckedIOException;
import java.nio.file.Files;
import java.nio.file.Path;
import java.util.HashSet;
import java.util.Set;

/** What the tests share: comparing answers with those that are due, sentence by sentence of the document. */
final class Due {
    private static final Path DOCUMENT = Path.of("../shared/DOC.md");
    private static final long LONGEST_MILLISECONDS = 300_000;
    private static String document;

    private final String test;
    private String sentence = "";
    private final Set<String> sentences = new HashSet<>();
    private int right = 0;
    private int wrong = 0;

    Due(String test) {
        this.test = test;
        Thread watch = new Thread(() -> endLate(test));
        watch.setDaemon(true);
        watch.start();
    }

    /** A call that never ends must fail the test, not hold it up. */
    private static void endLate(String test) {
        try {
            Thread.sleep(LONGEST_MILLISECONDS);
        } catch (InterruptedException e) {
            return;
        }
        System.out.println(test + ": does not end");
        System.out.flush();
        Runtime.getRuntime().halt(1);
    }

    /** What follows is asked because of these words, which must stand in the document. */
    void says(String words) {
        sentence = words;
        sentences.add(words);
        note(document().contains(words), "the document's words", "are not there", words);
    }

    private static String document() {
        if (document == null) {
            try {
                document = Files.readString(DOCUMENT).replaceAll("\\s+", " ");
            } catch (IOException e) {
                throw new UncheckedIOException(e);
            }
        }
        return document;
    }

    void is(String call, long got, long want) {
        note(got == want, call, Long.toString(got), Long.toString(want));
    }

    void is(String call, String got, String want) {
        int same = 0;
        while (same < Math.min(got.length(), want.length()) && got.charAt(same) == want.charAt(same)) {
            same++;
        }
        note(got.equals(want), call, around(got, same), around(want, same));
    }

    /** Long answers are shown only where they differ. */
    private static String around(String answer, int place) {
        if (answer.length() <= 300) {
            return "'" + answer + "'";
        }
        return "'.. " + answer.substring(Math.max(0, place - 60), Math.min(answer.length(), place + 60)) + " ..'";
    }

    private void note(boolean holds, String call, String got, String want) {
        if (holds) {
            right++;
            return;
        }
        wrong++;
        System.out.println(test + ": \"" + sentence + "\": " + call + " answered " + got + ", due is " + want);
    }

    /** The call is refused so, and all that can be asked then is as it is without the call. */
    void refused(String call, Dots.Maker maker, Dots.Call made, int want) {
        is(call, made.on(maker.make()), want);
        unchanged(call, maker, made);
    }

    /** All that can be asked behind the call is as it is without it. */
    void unchanged(String call, Dots.Maker maker, Dots.Call made) {
        String with = Seen.all(() -> {
            Dots x = maker.make();
            made.on(x);
            return x;
        });
        is(call + " changes nothing", with, Seen.allKnown(maker));
    }

    void close() {
        System.out.println(test + ": " + sentences.size() + " sentences, " + right + " answers as due, " + wrong + " not");
        if (wrong != 0) {
            System.exit(1);
        }
    }

    static int code(String letters) {
        int code = 0;
        for (char c : letters.toCharArray()) {
            code = code * 27 + c - 96;
        }
        return code;
    }

    static Dots typed(String text) {
        return new Dots().typed(text);
    }

    static Dots felt(int... cells) {
        return new Dots().felt(cells);
    }
}
