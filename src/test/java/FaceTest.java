import java.lang.reflect.Constructor;
import java.lang.reflect.Field;
import java.lang.reflect.Method;
import java.lang.reflect.Modifier;
import java.nio.file.Files;
import java.nio.file.Path;
import java.util.Arrays;
import java.util.Set;
import java.util.TreeSet;
import java.util.regex.Matcher;
import java.util.regex.Pattern;
import java.util.stream.Collectors;

/** The public face of the document, and the rules of LANGUAGE.md that can be seen from outside or by words. */
public final class FaceTest {
    private static final Due due = new Due("FaceTest");
    private static final String[] FACE = {"by(int)", "cell(int)", "drift(int,int)", "drop(int)", "fault()", "feel(int)", "feelAll()",
        "goBack(int)", "keep(int)", "line(int,int)", "ofRule(int,int)", "read()", "rest()", "rule(int,int,int)", "set(int,int)",
        "sign(int)", "text(int)", "told(int)", "undo()", "wipe()"};

    public static void main(String[] args) throws Exception {
        members();
        inside();
        source(Files.readString(Path.of("src/main/java/RaisedDots.java")));
        due.close();
    }

    private static String signature(Method method) {
        String types = Arrays.stream(method.getParameterTypes()).map(Class::getName).collect(Collectors.joining(","));
        return method.getName() + "(" + types + ")";
    }

    private static void members() {
        Class<?> face = RaisedDots.class;
        due.is("public final", face.getModifiers(), Modifier.PUBLIC | Modifier.FINAL);
        Constructor<?>[] made = face.getDeclaredConstructors();
        due.is("constructors", made.length, 1);
        due.is("it is public", made[0].getModifiers(), Modifier.PUBLIC);
        due.is("its parameters", made[0].getParameterCount(), 0);
        Set<String> open = new TreeSet<>();
        for (Method method : face.getDeclaredMethods()) {
            if (!Modifier.isPrivate(method.getModifiers())) {
                open.add(signature(method));
                due.is(method + " is public", method.getModifiers(), Modifier.PUBLIC);
                due.is(method + " answers", method.getReturnType().getName(), "int");
            }
        }
        due.is("the methods", open.toString(), Arrays.toString(FACE));
        Set<String> constants = new TreeSet<>();
        for (Field field : face.getDeclaredFields()) {
            if (!Modifier.isPrivate(field.getModifiers())) {
                constants.add(field.getName());
                due.is(field.getName(), field.getModifiers(), Modifier.PUBLIC | Modifier.STATIC | Modifier.FINAL);
            }
        }
        due.is("the constants", constants.toString(), "[FULL, NONE, NOT, OUTSIDE, UNKNOWN]");
    }

    private static void inside() {
        Set<String> names = Arrays.stream(FACE).map(s -> s.substring(0, s.indexOf('('))).collect(Collectors.toSet());
        Set<Class<?>> all = new java.util.HashSet<>(Set.of(RaisedDots.class.getDeclaredClasses()));
        for (Class<?> inner : all) {
            due.is(inner + " is static", Modifier.isStatic(inner.getModifiers()) ? 1 : 0, 1);
            due.is(inner + " is not public", Modifier.isPublic(inner.getModifiers()) ? 1 : 0, 0);
        }
        due.is("at most twelve classes", all.size() < 12 ? 1 : 0, 1);
        all.add(RaisedDots.class);
        for (Class<?> type : all) {
            long fields = Arrays.stream(type.getDeclaredFields()).filter(f -> !Modifier.isStatic(f.getModifiers())).count();
            due.is(type + " has at most twenty fields", fields <= 20 ? 1 : 0, 1);
            for (Field field : type.getDeclaredFields()) {
                boolean fixed = !Modifier.isStatic(field.getModifiers()) || Modifier.isFinal(field.getModifiers());
                due.is(field + " is final if static", fixed ? 1 : 0, 1);
            }
            for (Method method : type.getDeclaredMethods()) {
                boolean twice = names.contains(method.getName()) && !Modifier.isPublic(method.getModifiers());
                due.is(method + " bears a name of its own", twice ? 1 : 0, 0);
                due.is(method + " takes at most seven", method.getParameterCount() <= 7 ? 1 : 0, 1);
            }
        }
    }

    private static void source(String text) {
        due.is("signs 1 to 127 alone", text.matches("(?s)[\\x01-\\x7f]*") ? 1 : 0, 1);
        String code = text.replaceAll("(?s)/\\*.*?\\*/", " ").replaceAll("//[^\n]*", " ");
        Matcher word = Pattern.compile("\\b(throw|throws|try|catch|finally|synchronized|assert|import|package|protected|volatile|transient"
            + "|native|var|Object|Exception|Thread|Random|System\\.(?!arraycopy)\\w+|Math\\.\\w+Exact)\\b|->|::|@").matcher(code);
        while (word.find()) {
            due.is("a word that LANGUAGE.md leaves out", word.group(), "none");
        }
        int begin = 0;
        String[] lines = text.split("\n");
        for (int i = 0; i < lines.length; i++) {
            if (lines[i].matches(" {4}(public|private).*\\{| {8}[a-zA-Z].*\\) \\{")) {
                begin = i;
            } else if (lines[i].matches(" {4}\\}| {8}\\}")) {
                boolean isShort = i - begin <= 60 || lines[begin].contains("class");
                due.is("the method at line " + (begin + 1) + " is short", isShort ? 1 : 0, 1);
                begin = i;
            }
        }
    }
}
