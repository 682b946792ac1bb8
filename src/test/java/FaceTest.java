import java.io.IOException;
import java.lang.reflect.Constructor;
import java.lang.reflect.Field;
import java.lang.reflect.Method;
import java.lang.reflect.Modifier;
import java.nio.file.Files;
import java.nio.file.Path;
import java.util.Set;
import java.util.TreeSet;
import java.util.regex.Matcher;
import java.util.regex.Pattern;

/** The public face, and those rules of LANGUAGE.md that can be seen from outside or in the text. */
public final class FaceTest {
    private static final Set<String> METHODS = Set.of(
        "int visit()", "int ask(int,int)", "void clear()", "int steps(int,int)", "int waits(int,int,int)",
        "boolean rare(int,int,int)", "boolean cost(int,int)", "int contexts(int)", "int states(int)",
        "int press(int,int,int)", "int walked(int)", "int told(int,int,int)", "int dealt(int,int)",
        "int part(int,int)", "int late(int,int)", "int behind()", "int waiting(int)", "int learn()",
        "int count(int)");
    private static final String[] RULED_OUT = {
        "\\b(throw|try|catch|synchronized|assert|throws|protected|package|native|volatile)\\b",
        "->", "::", "Exact\\b", "\\bSystem\\b(?!\\.arraycopy)", "\\bThread\\b", "\\bObject\\b", "\\bException\\b",
        "\\bimport (?!java\\.util\\.Arrays;)"};

    public static void main(String[] args) throws IOException {
        face();
        nestedClasses();
        text();
        Check.end();
    }

    private static void face() {
        Class<LoadPress> type = LoadPress.class;
        Check.due("public and final", type.getModifiers(), Modifier.PUBLIC | Modifier.FINAL);
        Set<String> seen = new TreeSet<>();
        Set<String> publicNames = new TreeSet<>();
        for (Method method : type.getDeclaredMethods()) {
            if (Modifier.isPublic(method.getModifiers())) {
                seen.add(shape(method));
                publicNames.add(method.getName());
            }
        }
        Check.due("the methods are " + seen, seen.equals(METHODS), true);
        noPrivateNamesakes(type, publicNames);
        for (Class<?> nested : type.getDeclaredClasses()) {
            noPrivateNamesakes(nested, publicNames);
        }
        for (Field field : type.getDeclaredFields()) {
            boolean isConstant = Set.of("NONE", "END").contains(field.getName());
            int hidden = field.getModifiers() & (Modifier.PUBLIC | Modifier.PRIVATE);
            Check.due("field " + field, hidden, isConstant ? Modifier.PUBLIC : Modifier.PRIVATE);
        }
        for (Constructor<?> constructor : type.getDeclaredConstructors()) {
            Check.due("constructor " + constructor, constructor.getModifiers(), Modifier.PUBLIC);
            Check.due("its parameters", constructor.getParameterCount(), 0);
        }
    }

    private static String shape(Method method) {
        StringBuilder shape = new StringBuilder(method.getReturnType().getName());
        shape.append(' ').append(method.getName()).append('(');
        for (Class<?> parameter : method.getParameterTypes()) {
            shape.append(parameter.getName()).append(',');
        }
        if (method.getParameterCount() > 0) {
            shape.setLength(shape.length() - 1);
        }
        return shape.append(')').toString();
    }

    private static void noPrivateNamesakes(Class<?> type, Set<String> publicNames) {
        for (Method method : type.getDeclaredMethods()) {
            boolean isOfFace = type == LoadPress.class && Modifier.isPublic(method.getModifiers());
            boolean isHidden = type != LoadPress.class || Modifier.isPrivate(method.getModifiers());
            Check.due("of the face or hidden: " + method, isOfFace || isHidden, true);
            Check.due("namesake " + method, !isOfFace && publicNames.contains(method.getName()), false);
            Check.due("at most seven parameters: " + method, method.getParameterCount() <= 7, true);
        }
    }

    private static void nestedClasses() {
        Class<?>[] nested = LoadPress.class.getDeclaredClasses();
        Check.due("at most twelve classes", nested.length + 1 <= 12, true);
        for (Class<?> type : nested) {
            Check.due("static: " + type, Modifier.isStatic(type.getModifiers()), true);
            Check.due("hidden: " + type, Modifier.isPublic(type.getModifiers()), false);
            Check.due("at most twenty fields: " + type, type.getDeclaredFields().length <= 20, true);
            for (Field field : type.getDeclaredFields()) {
                boolean isState = Modifier.isStatic(field.getModifiers()) && !Modifier.isFinal(field.getModifiers());
                Check.due("static state: " + field, isState, false);
            }
        }
    }

    private static void text() throws IOException {
        String source = Files.readString(Path.of("src/main/java/LoadPress.java"));
        String code = source.replaceAll("(?s)/\\*.*?\\*/", "").replaceAll("//[^\n]*", "");
        for (String pattern : RULED_OUT) {
            Matcher matcher = Pattern.compile(pattern).matcher(code);
            Check.due("ruled out: " + pattern, matcher.find(), false);
        }
        Check.due("plain characters", source.chars().allMatch(c -> c < 128), true);
        int length = 0;
        for (String line : source.split("\n")) {
            length = line.matches("    (    )?[^ ].*\\{") ? 0 : length + 1;
            Check.due("a method of more than sixty lines, at: " + line, length > 60 && line.matches(" +}"), false);
        }
    }
}
