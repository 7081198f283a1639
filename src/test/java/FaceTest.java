import java.lang.reflect.Constructor;
import java.lang.reflect.Field;
import java.lang.reflect.Method;
import java.lang.reflect.Modifier;
import java.nio.file.Files;
import java.nio.file.Path;
import java.util.ArrayList;
import java.util.Arrays;
import java.util.List;
import java.util.Set;
import java.util.TreeSet;
import java.util.regex.Matcher;
import java.util.regex.Pattern;
import java.util.stream.Collectors;

/** The public face of the document, and the rules of LANGUAGE.md that reflection shows. */
public final class FaceTest {
    private static final Due due = new Due("FaceTest");
    private static final String[] FACE = {"by(int)", "cell(int)", "drift(int,int)", "drop(int)", "fault()", "feel(int)", "feelAll()",
        "goBack(int)", "keep(int)", "line(int,int)", "ofRule(int,int)", "read()", "rest()", "rule(int,int,int)", "set(int,int)",
        "sign(int)", "text(int)", "told(int)", "undo()", "wipe()"};

    public static void main(String[] args) throws Exception {
        String text = Files.readString(Path.of("src/main/java/RaisedDots.java"));
        members();
        written(text, Files.readString(Path.of("../shared/DOC.md")));
        headings(text);
        inside();
        due.close();
    }

    private static String signature(Method method) {
        String types = Arrays.stream(method.getParameterTypes()).map(Class::getName).collect(Collectors.joining(","));
        return method.getName() + "(" + types + ")";
    }

    private static void members() {
        due.says("All numbers are whole.");
        Class<?> face = RaisedDots.class;
        due.is("public final", face.getModifiers(), Modifier.PUBLIC | Modifier.FINAL);
        Constructor<?>[] made = face.getDeclaredConstructors();
        due.is("constructors", made.length, 1);
        due.is("it is public", made[0].getModifiers(), Modifier.PUBLIC);
        due.is("its parameters", made[0].getParameterCount(), 0);
        Set<String> open = new TreeSet<>();
        for (Method method : face.getDeclaredMethods()) {
            if (!Modifier.isPrivate(method.getModifiers())) {
                open.add(signature(method));
                due.is(method + " is public", method.getModifiers(), Modifier.PUBLIC);
                due.is(method + " answers", method.getReturnType().getName(), "int");
            }
        }
        due.is("the methods", open.toString(), Arrays.toString(FACE));
        Set<String> constants = new TreeSet<>();
        for (Field field : face.getDeclaredFields()) {
            if (!Modifier.isPrivate(field.getModifiers())) {
                constants.add(field.getName());
                due.is(field.getName(), field.getModifiers(), Modifier.PUBLIC | Modifier.STATIC | Modifier.FINAL);
            }
        }
        due.is("the constants", constants.toString(), "[FULL, NONE, NOT, OUTSIDE, UNKNOWN]");
    }

    /** Each line of the document's face stands in the class, with the same names, in the same order. */
    private static void written(String text, String document) {
        due.says("public final class RaisedDots {");
        String face = document.substring(document.indexOf("```java") + 7);
        face = face.substring(0, face.indexOf("```"));
        int from = 0;
        for (String line : face.split("\n")) {
            String words = line.trim().replaceAll("\\);$", ") {");
            if (words.isEmpty() || words.equals("}")) {
                continue;
            }
            int place = text.indexOf(words + "\n", from);
            due.is("'" + words + "' behind the line ahead of it", place >= from ? 1 : 0, 1);
            from = Math.max(from, place);
        }
    }

    private static void headings(String text) {
        due.says("Ahead of the calls `rule`, `drop`, `set`, `drift` the interface says: ---- rules.");
        under("rules", "rule drop set drift", text);
        due.says("Ahead of the calls `text`, `wipe`, `undo`, `told`, `cell`, `line`, `ofRule`, `by` the interface says: ---- the text.");
        under("the text", "text wipe undo told cell line ofRule by", text);
        due.says("Ahead of the calls `feel`, `feelAll`, `read`, `fault`, `sign`, `rest` the interface says: ---- reading back.");
        under("reading back", "feel feelAll read fault sign rest", text);
        due.says("Ahead of the calls `keep`, `goBack` the interface says: ---- images.");
        under("images", "keep goBack", text);
    }

    /** The public calls that stand between this heading and the next. */
    private static void under(String heading, String want, String text) {
        int begin = text.indexOf("    // ---- " + heading + "\n");
        due.is("the heading is there: " + heading, begin >= 0 ? 1 : 0, 1);
        int end = Math.max(begin, text.indexOf("    // ---- ", begin + 1));
        Matcher call = Pattern.compile("(?m)^    public int (\\w+)\\(").matcher(text.substring(Math.max(0, begin), Math.max(0, end)));
        List<String> calls = new ArrayList<>();
        while (call.find()) {
            calls.add(call.group(1));
        }
        due.is("the calls under " + heading, String.join(" ", calls), want);
    }

    private static void inside() {
        Set<String> names = Arrays.stream(FACE).map(s -> s.substring(0, s.indexOf('('))).collect(Collectors.toSet());
        Set<Class<?>> all = new java.util.HashSet<>(Set.of(RaisedDots.class.getDeclaredClasses()));
        for (Class<?> inner : all) {
            due.is(inner + " is static", Modifier.isStatic(inner.getModifiers()) ? 1 : 0, 1);
            due.is(inner + " is not public", Modifier.isPublic(inner.getModifiers()) ? 1 : 0, 0);
        }
        due.is("at most twelve classes", all.size() < 12 ? 1 : 0, 1);
        all.add(RaisedDots.class);
        for (Class<?> type : all) {
            long fields = Arrays.stream(type.getDeclaredFields()).filter(f -> !Modifier.isStatic(f.getModifiers())).count();
            due.is(type + " has at most twenty fields", fields <= 20 ? 1 : 0, 1);
            for (Field field : type.getDeclaredFields()) {
                boolean fixed = !Modifier.isStatic(field.getModifiers()) || Modifier.isFinal(field.getModifiers());
                due.is(field + " is final if static", fixed ? 1 : 0, 1);
            }
            for (Method method : type.getDeclaredMethods()) {
                boolean twice = names.contains(method.getName()) && !Modifier.isPublic(method.getModifiers());
                due.is(method + " bears a name of its own", twice ? 1 : 0, 0);
                due.is(method + " takes at most seven", method.getParameterCount() <= 7 ? 1 : 0, 1);
            }
        }
    }
}
