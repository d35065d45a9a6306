import java.io.IOException;
import java.lang.management.ManagementFactory;
import java.lang.reflect.Array;
import java.lang.reflect.Constructor;
import java.lang.reflect.Field;
import java.lang.reflect.Method;
import java.lang.reflect.Modifier;
import java.nio.file.Files;
import java.nio.file.Path;
import java.util.ArrayList;
import java.util.Arrays;
import java.util.Collections;
import java.util.HashSet;
import java.util.IdentityHashMap;
import java.util.List;
import java.util.Set;
import java.util.regex.Matcher;
import java.util.regex.Pattern;

/** The public face, the room that calls take, and what of LANGUAGE.md a text of code can show. */
public final class FaceTest {
    private static final String INDEX = " IndexOutOfBoundsException";
    private static final String ARGUMENT = " IllegalArgumentException";
    private static final String STATE = " IllegalStateException";
    private static final String[] METHODS = {
        "int write(int,int)" + INDEX + ARGUMENT, "boolean rule(int,int,int,int,int)" + INDEX + ARGUMENT,
        "int input(int,int,int)" + INDEX + ARGUMENT + STATE, "int fails(int,int)" + INDEX + ARGUMENT,
        "boolean poison(int,boolean)" + INDEX, "boolean checks(boolean)", "int vanish(int)" + ARGUMENT,
        "int empty()", "int forget()", "int build(int,int)" + INDEX, "int plain(int,int)" + INDEX,
        "int done(int,int)" + INDEX, "int why(int,int)" + INDEX, "int counts(int)" + ARGUMENT,
        "int entries()", "int away()", "int leaks()", "int needs(int)" + INDEX, "int users(int)" + INDEX,
        "int ring(int)" + INDEX, "int way(int,int,int)" + INDEX + ARGUMENT,
        "int time(int,int,int)" + INDEX + ARGUMENT,
    };
    private static final String[] CONSTANTS = {
        "NONE=-1", "FILE=0", "FOLDER=1", "TARGET=2", "TURNED=3", "SUM=0", "TENTH=1", "PICK=2", "FOLLOW=3",
        "LEAK=4", "NO_RULE=-2", "MISSING=-3", "RING=-4", "BROKEN=-5", "UNSEEN=0", "REUSED=1", "FETCHED=2",
        "RUN=3", "FAILED=4",
    };
    private static final int MOST_CELLS = 14_000;
    private static final int MOST_OBJECTS = 100;

    private FaceTest() {
    }

    public static void main(String[] arguments) throws IOException {
        face();
        classes();
        source(Files.readString(Path.of(arguments[0])));
        roomOfAnObject();
        roomOfCalls();
        Due.end("FaceTest");
    }

    private static void face() {
        Set<String> methods = new HashSet<>();
        for (Method method : Makewheel.class.getDeclaredMethods()) {
            if (!Modifier.isPrivate(method.getModifiers()) && !method.isSynthetic()) {
                StringBuilder text = new StringBuilder(method.getReturnType() + " " + method.getName() + "(");
                for (Class<?> parameter : method.getParameterTypes()) {
                    text.append(text.charAt(text.length() - 1) == '(' ? "" : ",").append(parameter);
                }
                text.append(")");
                for (Class<?> thrown : method.getExceptionTypes()) {
                    text.append(" ").append(thrown.getSimpleName());
                }
                methods.add(text.toString());
            }
        }
        Due.is("the methods", new HashSet<>(Arrays.asList(METHODS)), () -> methods);
        List<String> constants = new ArrayList<>();
        for (Field field : Makewheel.class.getDeclaredFields()) {
            if (!Modifier.isPrivate(field.getModifiers())) {
                constants.add(field.getName() + "=" + constant(field));
            }
        }
        Due.is("the constants", Arrays.asList(CONSTANTS), () -> constants);
        Constructor<?>[] constructors = Makewheel.class.getDeclaredConstructors();
        Due.is("one constructor, public, of nothing", true, () -> constructors.length == 1
            && Modifier.isPublic(constructors[0].getModifiers()) && constructors[0].getParameterCount() == 0);
        Due.is("public and final", Modifier.PUBLIC | Modifier.FINAL, () -> Makewheel.class.getModifiers());
    }

    private static Object constant(Field field) {
        try {
            return field.getInt(null);
        } catch (IllegalAccessException | IllegalArgumentException | NullPointerException none) {
            return "no int that is static";
        }
    }

    private static void classes() {
        Set<String> faceNames = new HashSet<>();
        for (String method : METHODS) {
            faceNames.add(method.substring(method.indexOf(' ') + 1, method.indexOf('(')));
        }
        Class<?>[] inside = Makewheel.class.getDeclaredClasses();
        Due.is("at most twelve classes", true, () -> inside.length < 12);
        List<Class<?>> all = new ArrayList<>(Arrays.asList(inside));
        all.add(Makewheel.class);
        for (Class<?> each : all) {
            Due.is(each + " is not to be seen", true, () -> each == Makewheel.class
                || Modifier.isStatic(each.getModifiers()) && !Modifier.isPublic(each.getModifiers()));
            int fields = 0;
            for (Field field : each.getDeclaredFields()) {
                fields += Modifier.isStatic(field.getModifiers()) ? 0 : 1;
                Due.is("static is final: " + field, true, () -> !Modifier.isStatic(field.getModifiers())
                    || Modifier.isFinal(field.getModifiers()));
            }
            int many = fields;
            Due.is("at most twenty fields: " + each, true, () -> many <= 20);
            for (Method method : each.getDeclaredMethods()) {
                Due.is("at most seven parameters: " + method, true, () -> method.getParameterCount() <= 7);
                Due.is("no name of the face: " + method, true, () -> each == Makewheel.class
                    && Modifier.isPublic(method.getModifiers()) || !faceNames.contains(method.getName()));
            }
        }
    }

    // Stricter than LANGUAGE.md: what the program does without needs no closer look at how it is used.
    private static void source(String whole) {
        String code = whole.replaceAll("(?s)/\\*.*?\\*/", "").replaceAll("//.*", "").replaceAll("\"[^\"]*\"", "\"\"");
        String[] forbidden = {"->", "::", "\\bimport\\b", "\\bpackage\\b", "\\btry\\b", "\\bcatch\\b", "\\bfinally\\b",
            "\\bassert\\b", "\\bsynchronized\\b", "\\bnull\\b", "\\bstatic\\s*\\{", "\\binstanceof\\b", "\\bwhile\\b",
            "\\bObject\\b", "\\bThread\\b", "\\bException\\b", "\\bprotected\\b", "@", "\\bRandom\\b", "nanoTime"};
        for (String each : forbidden) {
            Due.is("no " + each, false, () -> Pattern.compile(each).matcher(code).find());
        }
        Matcher library = Pattern.compile("\\b(System|Arrays|Math|Integer|Long|List|ArrayList|String)\\b").matcher(code);
        Due.is("no library but exceptions", false, () -> library.find());
        Matcher thrown = Pattern.compile("throw new (\\w+)").matcher(code);
        while (thrown.find()) {
            String name = thrown.group(1);
            Due.is("one that the document names: " + name, true,
                () -> METHODS[2].contains(" " + name));
        }
        Due.is("no sign beyond 127", false, () -> Pattern.compile("[^\\x00-\\x7f]").matcher(whole).find());
        int start = 0;
        String[] lines = whole.split("\n");
        for (int line = 0; line < lines.length; line++) {
            if (lines[line].matches("( {4}){1,2}[\\w<].*[({]\\s*") && !lines[line].contains("class ")) {
                start = line;
            } else if (lines[line].matches("( {4}){1,2}\\}")) {
                int length = line - start;
                Due.is("a short method at line " + start, true, () -> length < 60);
            }
        }
    }

    private static void roomOfAnObject() {
        int[] room = new int[2];
        count(new Makewheel(), Collections.newSetFromMap(new IdentityHashMap<>()), room);
        Due.is("cells of an object, " + room[1], true, () -> room[1] <= MOST_CELLS);
        Due.is("objects of an object, " + room[0], true, () -> room[0] <= MOST_OBJECTS);
    }

    private static void count(Object each, Set<Object> seen, int[] room) {
        if (each == null || !seen.add(each)) {
            return;
        }
        room[0]++;
        if (each.getClass().isArray()) {
            room[1] += Array.getLength(each);
            return;
        }
        for (Field field : each.getClass().getDeclaredFields()) {
            if (!Modifier.isStatic(field.getModifiers())) {
                room[1]++;
                if (!field.getType().isPrimitive()) {
                    count(valueOf(field, each), seen, room);
                }
            }
        }
    }

    private static Object valueOf(Field field, Object each) {
        try {
            field.setAccessible(true);
            return field.get(each);
        } catch (IllegalAccessException never) {
            throw new IllegalStateException(never);
        }
    }

    /** Calls that throw nothing make no objects at all, so no run of calls runs out of room. */
    private static void roomOfCalls() {
        com.sun.management.ThreadMXBean threads =
            (com.sun.management.ThreadMXBean) ManagementFactory.getThreadMXBean();
        long self = Thread.currentThread().getId();
        Makewheel x = new Makewheel();
        callAll(x);
        threads.getThreadAllocatedBytes(self);
        long before = threads.getThreadAllocatedBytes(self);
        callAll(x);
        long made = threads.getThreadAllocatedBytes(self) - before;
        Due.is("bytes made by calls, " + made, true, () -> made < 4096);
    }

    private static void callAll(Makewheel x) {
        x.checks(true);
        for (int target = 0; target < 16; target++) {
            x.write(target, target);
            x.rule(target, target % 5, target, 1, 1);
            x.input(target, Makewheel.FILE, target);
            if (target > 0) {
                x.input(target, Makewheel.TARGET, target - 1);
                x.input(target, Makewheel.TURNED, target - 1);
            }
        }
        for (int round = 0; round < 10; round++) {
            x.write(0, round + 100);
            x.poison(round % 3, true);
            x.fails(round, 2);
            x.vanish(1);
            x.build(15, round % 2);
            x.plain(15, 0);
            x.time(15, 0, 2);
            x.needs(15);
            x.users(0);
            x.users(100);
            x.ring(4);
            x.way(15, 0, 3);
            x.done(0, 0);
            x.why(0, 0);
            x.counts(0);
            x.entries();
            x.away();
            x.leaks();
            x.forget();
        }
        x.empty();
    }
}
