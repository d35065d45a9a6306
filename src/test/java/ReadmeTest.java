import java.io.IOException;
import java.lang.reflect.InvocationTargetException;
import java.lang.reflect.Method;
import java.nio.file.Files;
import java.nio.file.Path;
import java.util.regex.Matcher;
import java.util.regex.Pattern;

/** Makes the calls that README.md shows; each must answer what stands behind its arrow, if there is one. */
public final class ReadmeTest {
    private static final Pattern CALL = Pattern.compile("x\\.(\\w+)\\(([^)]*)\\);\\s*(?:// (?:-> ([-\\w]+))?.*)?");
    private static final String MAKE = "Makewheel x = new Makewheel();";
    private static final String FACE = "Makewheel.";

    private ReadmeTest() {
    }

    public static void main(String[] arguments) throws IOException, ReflectiveOperationException {
        Makewheel x = null;
        boolean isCode = false;
        int shown = 0;
        for (String line : Files.readAllLines(Path.of("README.md"))) {
            if (line.startsWith("```")) {
                isCode = line.equals("```java");
            } else if (isCode && line.equals(MAKE)) {
                x = new Makewheel();
            } else if (isCode && !line.isEmpty()) {
                call(x, line);
                shown++;
            }
        }
        int calls = shown;
        Due.is("README.md shows calls", true, () -> calls > 0);
        Due.end("ReadmeTest");
    }

    private static void call(Makewheel x, String line) throws ReflectiveOperationException {
        Matcher parts = CALL.matcher(line);
        boolean isCall = parts.matches();
        Due.is("a call that can be made: " + line, true, () -> isCall);
        if (!isCall) {
            return;
        }
        String[] texts = parts.group(2).isEmpty() ? new String[0] : parts.group(2).split(", ");
        Object[] values = new Object[texts.length];
        for (int i = 0; i < texts.length; i++) {
            values[i] = texts[i].startsWith(FACE) ? valueOf(texts[i].substring(FACE.length())) : valueOf(texts[i]);
        }
        Object got = answerOf(methodOf(parts.group(1), texts.length), x, values);
        if (parts.group(3) == null) {
            Due.is(line, false, () -> got instanceof Throwable);
        } else {
            Object want = valueOf(parts.group(3));
            Due.is(line, want, () -> got);
        }
    }

    private static Method methodOf(String name, int parameters) throws NoSuchMethodException {
        for (Method method : Makewheel.class.getMethods()) {
            if (method.getName().equals(name) && method.getParameterCount() == parameters) {
                return method;
            }
        }
        throw new NoSuchMethodException(name);
    }

    private static Object answerOf(Method method, Makewheel x, Object[] values) throws IllegalAccessException {
        try {
            return method.invoke(x, values);
        } catch (InvocationTargetException thrown) {
            return thrown.getCause();
        }
    }

    /** A number, a boolean, or a constant of the face by its name. */
    private static Object valueOf(String text) throws ReflectiveOperationException {
        if (text.equals("true") || text.equals("false")) {
            return text.equals("true");
        }
        boolean isName = Character.isLetter(text.charAt(0));
        return isName ? Makewheel.class.getField(text).get(null) : Integer.valueOf(text);
    }
}
