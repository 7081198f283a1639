import java.nio.file.Files;
import java.nio.file.Path;
import java.util.ArrayList;
import java.util.LinkedHashMap;
import java.util.LinkedHashSet;
import java.util.List;
import java.util.Map;
import java.util.Set;
import java.util.regex.Matcher;
import java.util.regex.Pattern;

/** The rules of LANGUAGE.md that the class's source shows: its words, its library, its methods and how deep they call. */
public final class LanguageTest {
    private static final Due due = new Due("LanguageTest");
    private static final int LONGEST_METHOD = 60;
    private static final int DEEPEST = 8;
    private static final Pattern CLASS = Pattern.compile("^ *(?:(?:public|private|static|final) )+class (\\w+) \\{$");
    private static final Pattern METHOD = Pattern.compile("^( {4}| {8})(?:(?:public|private|static|final) )*(?:[\\w\\[\\]]+ )?(\\w+)\\([^)]*\\) \\{$");
    private static final Pattern CALL = Pattern.compile("(?<new>new )?(?:(?<of>\\w+)(?:\\[\\w+\\])?\\.)?(?<name>\\w+)\\(");
    private static final Set<String> NO_CALLS = Set.of("if", "for", "while", "switch", "return");
    private static final Set<String> LIBRARY = Set.of("Math.min", "Math.max", "System.arraycopy");

    /** The lines of each method, by its class and name. */
    private final Map<String, List<String>> methods = new LinkedHashMap<>();
    private final List<String> outside = new ArrayList<>();
    private final Map<String, Integer> depths = new LinkedHashMap<>();

    public static void main(String[] args) throws Exception {
        String text = Files.readString(Path.of("src/main/java/RaisedDots.java"));
        due.is("signs 1 to 127 alone", text.matches("(?s)[\\x01-\\x7f]*") ? 1 : 0, 1);
        String code = text.replaceAll("(?s)/\\*.*?\\*/", " ").replaceAll("//[^\n]*", " ");
        words(code);
        LanguageTest test = new LanguageTest(code);
        test.found();
        test.lengths();
        test.objects();
        test.library();
        test.deep();
        due.close();
    }

    private LanguageTest(String code) {
        String type = "";
        String method = null;
        String end = "";
        for (String line : code.split("\n")) {
            Matcher opened = CLASS.matcher(line);
            Matcher head = METHOD.matcher(line);
            if (opened.matches()) {
                type = opened.group(1);
            } else if (method == null && head.matches()) {
                method = type + "." + head.group(2);
                end = head.group(1) + "}";
                due.is(method + " is there once in its class", methods.put(method, new ArrayList<>()) == null ? 1 : 0, 1);
            } else if (line.equals(end)) {
                method = null;
                end = "";
                // behind a nested class's brace the outer class goes on, but nothing of it stands there
            } else if (method != null) {
                methods.get(method).add(line);
            } else {
                outside.add(line);
            }
        }
    }

    private static void words(String code) {
        Matcher word = Pattern.compile("\\b(throw|throws|try|catch|finally|synchronized|assert|import|package|protected|volatile|transient"
            + "|native|var|instanceof|goto|Object|Exception|Thread|Random)\\b|->|::|@|\"|'").matcher(code);
        while (word.find()) {
            due.is("a word that LANGUAGE.md leaves out, or that the class does without", word.group(), "none");
        }
    }

    /** So that the patterns see what there is: each brace of a method's beginning, and each call of the face. */
    private void found() {
        String[] calls = {"rule", "drop", "set", "drift", "text", "wipe", "undo", "told", "cell", "line", "ofRule", "by", "feel", "feelAll",
            "read", "fault", "sign", "rest", "keep", "goBack"};
        for (String call : calls) {
            due.is(call + " is seen", methods.containsKey("RaisedDots." + call) ? 1 : 0, 1);
        }
        for (String line : outside) {
            due.is("a line outside of methods calls none: " + line.trim(), line.matches(".*\\w\\(.*") && !line.contains("= new ") ? 1 : 0, 0);
        }
    }

    private void lengths() {
        for (Map.Entry<String, List<String>> method : methods.entrySet()) {
            due.is(method.getKey() + " is short", method.getValue().size() <= LONGEST_METHOD ? 1 : 0, 1);
        }
    }

    private static boolean isConstructor(String method) {
        String[] parts = method.split("\\.");
        return parts[0].equals(parts[1]);
    }

    /** What a run makes is counted, so objects and rows are made with the object, and by no call. */
    private void objects() {
        for (Map.Entry<String, List<String>> method : methods.entrySet()) {
            boolean makes = String.join("\n", method.getValue()).matches("(?s).*\\bnew\\b.*");
            due.is(method.getKey() + " makes no object", makes && !isConstructor(method.getKey()) ? 1 : 0, 0);
        }
    }

    private void library() {
        for (List<String> lines : methods.values()) {
            Matcher used = Pattern.compile("\\b[A-Z][a-z]\\w*\\.\\w+").matcher(String.join("\n", lines));
            while (used.find()) {
                due.is(used.group() + " is of the library that the class does with", LIBRARY.contains(used.group()) ? 1 : 0, 1);
            }
        }
    }

    private void deep() {
        int deepest = 0;
        for (String method : methods.keySet()) {
            deepest = Math.max(deepest, depthOf(method, new LinkedHashSet<>()));
        }
        due.is("calls are seen", deepest >= 5 ? 1 : 0, 1);
        due.is("calls go at most " + DEEPEST + " deep, here " + deepest, deepest <= DEEPEST ? 1 : 0, 1);
    }

    /** How many calls stand open at once at most, its own among them. */
    private int depthOf(String method, Set<String> open) {
        if (depths.containsKey(method)) {
            return depths.get(method);
        }
        if (!open.add(method)) {
            due.is("no recursion", open.toString(), "none");
            return 0;
        }
        int below = 0;
        for (String called : calledBy(method)) {
            below = Math.max(below, depthOf(called, open));
        }
        open.remove(method);
        depths.put(method, below + 1);
        return below + 1;
    }

    /** By name: a call of another object may be of any class inside that has a method of that name. */
    private Set<String> calledBy(String method) {
        Set<String> called = new LinkedHashSet<>();
        Matcher call = CALL.matcher(String.join("\n", methods.get(method)));
        while (call.find()) {
            String name = call.group("name");
            boolean ofLibrary = call.group("of") != null && LIBRARY.contains(call.group("of") + "." + name);
            if (NO_CALLS.contains(name) || call.group("new") != null || ofLibrary) {
                continue;
            }
            Set<String> found = new LinkedHashSet<>();
            String own = method.substring(0, method.indexOf('.')) + "." + name;
            for (String other : methods.keySet()) {
                boolean fits = call.group("of") == null ? other.equals(own) || other.equals("RaisedDots." + name)
                    : other.endsWith("." + name) && !other.startsWith("RaisedDots.");
                if (fits) {
                    found.add(other);
                }
            }
            due.is(method + " calls " + call.group() + " which is a method of the class", found.isEmpty() ? 0 : 1, 1);
            called.addAll(found);
        }
        return called;
    }
}
