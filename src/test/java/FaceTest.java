import java.io.IOException;
import java.lang.reflect.Constructor;
import java.lang.reflect.Executable;
import java.lang.reflect.Field;
import java.lang.reflect.Method;
import java.lang.reflect.Modifier;
import java.nio.file.Files;
import java.nio.file.Path;
import java.util.Arrays;
import java.util.Set;
import java.util.TreeSet;
import java.util.regex.Matcher;
import java.util.regex.Pattern;
import java.util.stream.Collectors;

/** The class has the face that the document shows under 'The public face' and names in each promise, and no other. */
public final class FaceTest {
    private static final Due DUE = new Due("FaceTest");
    private static final Pattern SHOWN = Pattern.compile("^    (public .*);$", Pattern.MULTILINE);
    private static final Pattern PROMISED = Pattern.compile("^## Promise \\d+: .*\n\n`([^`]+)`: ", Pattern.MULTILINE);
    private static final Pattern PARAMETER = Pattern.compile("(\\w+) \\w+(?=[,)])");

    private FaceTest() {
    }

    public static void main(String[] args) throws IOException {
        String document = Files.readString(Path.of("../shared/DOC.md"));
        Set<String> shown = found(SHOWN, document);
        Set<String> has = has();
        DUE.is("The public face: " + shown + " is " + has, shown.equals(has), true);
        Set<String> promised = found(PROMISED, document);
        DUE.is("promises", promised.size(), 31);
        for (String call : promised) {
            DUE.is("Promise of " + call, has.contains("public " + call), true);
        }
        DUE.is("The public face: final", Modifier.isFinal(DraughtWebs.class.getModifiers()), true);
        DUE.is("The public face: public", Modifier.isPublic(DraughtWebs.class.getModifiers()), true);
        DUE.is("The public face: no class above it", DraughtWebs.class.getSuperclass() == Object.class
                && DraughtWebs.class.getInterfaces().length == 0, true);
        DUE.end();
    }

    /** Without the names of parameters. */
    private static Set<String> found(Pattern pattern, String document) {
        Set<String> all = new TreeSet<>();
        Matcher matcher = pattern.matcher(document);
        while (matcher.find()) {
            if (!matcher.group(1).startsWith("public final class")) {
                all.add(PARAMETER.matcher(matcher.group(1)).replaceAll("$1"));
            }
        }
        return all;
    }

    private static Set<String> has() {
        Set<String> all = new TreeSet<>();
        for (Field field : DraughtWebs.class.getDeclaredFields()) {
            if (!Modifier.isPrivate(field.getModifiers())) {
                all.add(Modifier.toString(field.getModifiers()) + " " + field.getType() + " " + field.getName() + " = "
                        + valueOf(field));
            }
        }
        for (Constructor<?> made : DraughtWebs.class.getDeclaredConstructors()) {
            if (!Modifier.isPrivate(made.getModifiers())) {
                all.add(Modifier.toString(made.getModifiers()) + " " + made.getName() + parameters(made));
            }
        }
        for (Method method : DraughtWebs.class.getDeclaredMethods()) {
            if (!Modifier.isPrivate(method.getModifiers())) {
                all.add(Modifier.toString(method.getModifiers()) + " " + method.getReturnType() + " " + method.getName()
                        + parameters(method));
            }
        }
        return all;
    }

    private static Object valueOf(Field field) {
        try {
            return field.get(null);
        } catch (IllegalAccessException e) {
            return e;
        }
    }

    private static String parameters(Executable called) {
        return Arrays.stream(called.getParameterTypes()).map(Class::getName).collect(Collectors.joining(", ", "(", ")"));
    }
}
