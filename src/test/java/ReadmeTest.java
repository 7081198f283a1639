import java.io.IOException;
import java.lang.reflect.Method;
import java.nio.file.Files;
import java.nio.file.Path;
import java.util.ArrayList;
import java.util.Arrays;
import java.util.List;
import java.util.Set;
import java.util.TreeSet;
import java.util.regex.Matcher;
import java.util.regex.Pattern;
import java.util.stream.Stream;

/** What README.md says is so: the examples' answers, the calls with their refusals, the classes and tests it names. */
public final class ReadmeTest {
    private static final Due due = new Due("ReadmeTest");
    private static final Pattern EXAMPLE = Pattern.compile("x\\.(\\w+)\\((.*)\\); +// (-?\\d+|NONE|UNKNOWN|OUTSIDE|NOT|FULL)(?::.*)?");
    private static final Pattern ROW = Pattern.compile("(?m)^\\| `(\\w+)\\(([^)]*)\\)` \\| (.*) \\|(.*)\\|$");
    private static final Pattern REFUSAL = Pattern.compile("\\b(UNKNOWN|OUTSIDE|NOT|FULL)\\b");

    public static void main(String[] args) throws Exception {
        String readme = Files.readString(Path.of("README.md"));
        String document = Files.readString(Path.of("../shared/DOC.md"));
        examples(readme);
        calls(readme, document);
        constants(readme);
        files(readme);
        due.close();
    }

    private static void examples(String readme) throws Exception {
        Matcher block = Pattern.compile("(?s)```java\n(.*?)```").matcher(readme);
        int count = 0;
        while (block.find()) {
            RaisedDots x = null;
            for (String line : block.group(1).split("\n")) {
                Matcher call = EXAMPLE.matcher(line);
                if (line.equals("RaisedDots x = new RaisedDots();")) {
                    x = new RaisedDots();
                } else if (call.matches() && x != null) {
                    due.is(line, answer(x, call.group(1), call.group(2)), numberOf(call.group(3)));
                    count++;
                } else {
                    due.is("a line that is no call with its answer", line, "");
                }
            }
        }
        due.is("examples are seen", count >= 40 ? 1 : 0, 1);
    }

    private static int answer(RaisedDots x, String name, String numbers) throws Exception {
        List<Object> given = new ArrayList<>();
        for (String number : numbers.isEmpty() ? new String[0] : numbers.split(", ")) {
            given.add(number.startsWith("'") ? (int) number.charAt(1) : Integer.parseInt(number));
        }
        Class<?>[] types = new Class<?>[given.size()];
        Arrays.fill(types, int.class);
        return (Integer) RaisedDots.class.getMethod(name, types).invoke(x, given.toArray());
    }

    private static int numberOf(String answer) throws Exception {
        return answer.matches("-?\\d+") ? Integer.parseInt(answer) : RaisedDots.class.getField(answer).getInt(null);
    }

    /** Each call of the face has a row, in the document's order, with the refusals that the document tells for it. */
    private static void calls(String readme, String document) {
        List<String> rows = new ArrayList<>();
        Matcher row = ROW.matcher(readme);
        while (row.find()) {
            rows.add(row.group(1) + "(" + row.group(2) + ") " + refusals(row.group(4)));
            due.is(row.group(1) + ": a refusal among the answers", refusals(row.group(3)).toString(), "[]");
        }
        List<String> want = new ArrayList<>();
        Matcher promise = Pattern.compile("(?m)^`int (\\w+)\\(([^)]*)\\)`: (.*)$").matcher(document);
        while (promise.find()) {
            want.add(promise.group(1) + "(" + promise.group(2).replace("int ", "") + ") " + refusals(promise.group(3)));
        }
        due.is("the calls are seen", want.size(), 20);
        due.is("the calls and their refusals", String.join("\n", rows), String.join("\n", want));
        for (Method method : RaisedDots.class.getMethods()) {
            if (method.getDeclaringClass() == RaisedDots.class) {
                due.is(method.getName() + " has a row", readme.contains("\n| `" + method.getName() + "(") ? 1 : 0, 1);
            }
        }
    }

    private static Set<String> refusals(String words) {
        Set<String> found = new TreeSet<>();
        Matcher refusal = REFUSAL.matcher(words);
        while (refusal.find()) {
            found.add(refusal.group());
        }
        return found;
    }

    private static void constants(String readme) throws Exception {
        String words = readme.replaceAll("\\s+", " ");
        for (String name : new String[] {"UNKNOWN", "OUTSIDE", "NOT", "FULL"}) {
            due.is("the number of " + name, words.contains("`" + name + "` " + numberOf(name)) ? 1 : 0, 1);
        }
        due.is("the number of NONE", words.contains("`NONE` (" + numberOf("NONE") + ")") ? 1 : 0, 1);
    }

    /** The tests and the classes inside that it names are those that there are. */
    private static void files(String readme) throws IOException {
        Set<String> named = new TreeSet<>();
        Matcher name = Pattern.compile("`(\\w+Test)`").matcher(readme);
        while (name.find()) {
            named.add(name.group(1));
        }
        Set<String> there = new TreeSet<>();
        try (Stream<Path> files = Files.list(Path.of("src/test/java"))) {
            files.map(file -> file.getFileName().toString()).filter(file -> file.endsWith("Test.java"))
                .forEach(file -> there.add(file.replace(".java", "")));
        }
        due.is("the tests", named.toString(), there.toString());
        Set<String> classes = new TreeSet<>();
        Matcher inside = Pattern.compile("(?m)^\\| `(\\w+)` \\|").matcher(readme.substring(readme.indexOf("## Inside"), readme.indexOf("## Tests")));
        while (inside.find()) {
            classes.add(inside.group(1));
        }
        Set<String> nested = new TreeSet<>();
        for (Class<?> type : RaisedDots.class.getDeclaredClasses()) {
            nested.add(type.getSimpleName());
        }
        due.is("the classes inside", classes.toString(), nested.toString());
    }
}
