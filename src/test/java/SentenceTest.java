import java.io.IOException;
import java.nio.file.Files;
import java.nio.file.Path;
import java.util.Arrays;
import java.util.List;
import java.util.regex.Matcher;
import java.util.regex.Pattern;
import java.util.stream.Stream;

/** The document from its first line: each of its words is named by a test (due.says), but for those that ask for nothing. */
public final class SentenceTest {
    private static final Due due = new Due("SentenceTest");
    private static final Pattern SAYS = Pattern.compile("due\\.says\\(((?:\\s*\"[^\"]*\"\\s*\\+?)+)\\)");
    private static final Pattern LITERAL = Pattern.compile("\"([^\"]*)\"");
    /** Headings and signatures are held by FaceTest; of what is not promised nothing can be asked. */
    private static final List<String> ASK_NOTHING = List.of(
        "Raised dots:", "======== 1", "======== 2", "======== 3", "Words in capitals are told where they come first.",
        "How the state is held inside the object is free, as are the speed of each call, the text of toString and the behaviour of equals and hashCode.",
        "Use of one object from several threads at once is not promised to be safe.", "and nothing about an object after its 512th call.");

    public static void main(String[] args) throws IOException {
        String document = plain(Files.readString(Path.of("../shared/DOC.md")));
        boolean[] named = new boolean[document.length()];
        for (String words : ASK_NOTHING) {
            due.is("'" + words + "' is in the document", mark(document, words, named) > 0 ? 1 : 0, 1);
        }
        try (Stream<Path> tests = Files.list(Path.of("src/test/java"))) {
            for (Path test : tests.filter(file -> file.toString().endsWith("Test.java")).sorted().toList()) {
                markAll(document, Files.readString(test), named);
            }
        }
        for (String words : unnamed(document, named)) {
            due.is("the words that no test names", words, "");
        }
        due.is("words are seen", document.split(" ").length > 1000 ? 1 : 0, 1);
        due.close();
    }

    /** Without headings, fences, the face and the signatures of the promises. */
    private static String plain(String document) {
        String text = document.replaceAll("(?s)```java.*?```", " ").replaceAll("(?m)^#.*$", " ").replaceAll("(?m)^```.*$", " ");
        return text.replaceAll("(?m)^`[^`]*`: ", " ").replaceAll("\\s+", " ");
    }

    private static void markAll(String document, String test, boolean[] named) {
        Matcher says = SAYS.matcher(test);
        while (says.find()) {
            StringBuilder words = new StringBuilder();
            Matcher literal = LITERAL.matcher(says.group(1));
            while (literal.find()) {
                words.append(literal.group(1));
            }
            mark(document, words.toString(), named);
        }
    }

    private static int mark(String document, String words, boolean[] named) {
        int count = 0;
        for (int at = document.indexOf(words); at >= 0; at = document.indexOf(words, at + 1)) {
            Arrays.fill(named, at, at + words.length(), true);
            count++;
        }
        return count;
    }

    /** What is left of the document, in parts, but for blanks and points between sentences. */
    private static List<String> unnamed(String document, boolean[] named) {
        StringBuilder left = new StringBuilder();
        for (int i = 0; i < named.length; i++) {
            left.append(named[i] ? '\n' : document.charAt(i));
        }
        return Arrays.stream(left.toString().split("\n+")).filter(part -> part.matches(".*\\w.*")).toList();
    }
}
