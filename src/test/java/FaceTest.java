import java.io.IOException;
import java.lang.reflect.Constructor;
import java.lang.reflect.Field;
import java.lang.reflect.InvocationTargetException;
import java.lang.reflect.Method;
import java.lang.reflect.Modifier;
import java.nio.file.Files;
import java.nio.file.Path;
import java.util.ArrayList;
import java.util.Arrays;
import java.util.List;
import java.util.Random;
import java.util.Set;
import java.util.TreeSet;
import java.util.regex.Matcher;
import java.util.regex.Pattern;

/** The public face, and those rules of LANGUAGE.md that can be seen from outside or in the text. */
public final class FaceTest {
    private static final Due due = new Due();
    private static final String SOURCE = "src/main/java/SevenRounds.java";
    private static final String[] FACE = {
        "int part(int, int, int)", "int thread(int, boolean)", "int set(int, int)", "int man(int, int)",
        "int say(int)", "int wipe()", "int fault()", "int judge(int)", "int done()", "int behind(int)",
        "int then(int)", "int fell(int)", "int down()", "int shout(int)", "int horns(int, int)",
        "int weakest(int, int)", "int watch(int, int, int)", "int seen(int, int)", "int forget()",
        "int tones()", "int next(int)", "int chain(int)", "int quiet(int, int, int)",
        "long water(int, int, int, int)", "int lots(int, int, int, int)", "int day(int, int, int)",
        "int image(int)", "int restore(int)", "int told(int)"
    };
    // written so that each would be found as code, not as a part of another word
    private static final String[] FORBIDDEN = {
        "->", "::", "\\btry\\b", "\\bcatch\\b", "\\bthrow\\b", "\\bfinally\\b", "\\bsynchronized\\b", "\\bassert\\b",
        "\\bpackage\\b", "\\w+Exact\\b", "\\bdouble\\b", "\\bfloat\\b", "\\bSystem\\.(?!arraycopy)",
        "\\bstatic\\s*\\{", "\\btoString\\b", "\\bhashCode\\b", "\\bequals\\b", "\\bObject\\b", "\\bvar\\b"
    };

    // all that the source takes from the library, and may by rule 4
    private static final Set<String> LIBRARY =
            Set.of("Arrays.fill", "Integer.bitCount", "Math.max", "Math.min", "System.arraycopy");
    private static final int[] NUMBERS = {
        Integer.MIN_VALUE, Integer.MIN_VALUE + 1, -65536, -100, -7, -6, -1, 0, 1, 2, 3, 5, 7, 8, 9, 10, 11, 12, 13,
        20, 21, 30, 33, '.', '!', 'h', 'n', '0', '9', 41, 50, 57, 60, 99, 100, 126, 127, 255, 256, 4095, 4096, 9999,
        10000, 65536, Integer.MAX_VALUE - 1, Integer.MAX_VALUE
    };

    public static void main(String[] args) throws IOException, IllegalAccessException {
        constants();
        members();
        nested();
        text();
        noCallThrows();
        due.end();
    }

    private static void constants() {
        due.is("NONE", SevenRounds.NONE, -6);
        due.is("UNKNOWN", SevenRounds.UNKNOWN, -1);
        due.is("OUTSIDE", SevenRounds.OUTSIDE, -2);
        due.is("STATE", SevenRounds.STATE, -3);
        due.is("FULL", SevenRounds.FULL, -4);
        due.is("NO", SevenRounds.NO, -5);
        due.is("LOST", SevenRounds.LOST, -1000000000000000000L);
    }

    private static void members() {
        Class<?> face = SevenRounds.class;
        due.holds("public and final", Modifier.isPublic(face.getModifiers()) && Modifier.isFinal(face.getModifiers()));
        Set<String> want = new TreeSet<>(List.of(FACE));
        Set<String> is = new TreeSet<>();
        Set<String> names = new TreeSet<>();
        for (Method method : face.getDeclaredMethods()) {
            if (!Modifier.isPrivate(method.getModifiers())) {
                is.add(method.getReturnType() + " " + method.getName() + "(" + types(method) + ")");
                names.add(method.getName());
            }
        }
        due.holds("the methods are " + want + " and not " + is, is.equals(want));
        for (Method method : face.getDeclaredMethods()) {
            boolean isPrivate = Modifier.isPrivate(method.getModifiers());
            due.holds("a name of its own: " + method, !isPrivate || !names.contains(method.getName()));
        }
        Set<String> fields = new TreeSet<>();
        for (Field field : face.getDeclaredFields()) {
            if (!Modifier.isPrivate(field.getModifiers())) {
                fields.add(field.getName());
            }
            boolean isStatic = Modifier.isStatic(field.getModifiers());
            due.holds("static is final: " + field, !isStatic || Modifier.isFinal(field.getModifiers()));
        }
        due.holds("the constants", fields.equals(Set.of("NONE", "UNKNOWN", "OUTSIDE", "STATE", "FULL", "NO", "LOST")));
        Constructor<?>[] constructors = face.getDeclaredConstructors();
        due.is("constructors", constructors.length, 1);
        due.is("its parameters", constructors[0].getParameterCount(), 0);
    }

    private static String types(Method method) {
        StringBuilder text = new StringBuilder();
        for (Class<?> type : method.getParameterTypes()) {
            text.append(text.length() == 0 ? "" : ", ").append(type);
        }
        return text.toString();
    }

    private static void nested() {
        Class<?>[] classes = SevenRounds.class.getDeclaredClasses();
        due.holds("some twelve classes", classes.length <= 11);
        for (Class<?> one : classes) {
            int is = one.getModifiers();
            due.holds("static: " + one, Modifier.isStatic(is));
            due.holds("not public: " + one, !Modifier.isPublic(is) && !Modifier.isProtected(is));
            due.holds("some twenty fields: " + one, one.getDeclaredFields().length <= 20);
            for (Method method : one.getDeclaredMethods()) {
                due.holds("seven parameters: " + method, method.getParameterCount() <= 7);
            }
        }
    }

    private static void text() throws IOException {
        String text = Files.readString(Path.of(SOURCE));
        String code = text.replaceAll("(?s)/\\*.*?\\*/", "").replaceAll("//[^\n]*", "");
        for (String forbidden : FORBIDDEN) {
            due.holds("no " + forbidden, !Pattern.compile(forbidden).matcher(code).find());
        }
        Matcher imports = Pattern.compile("import ([^;]*);").matcher(code);
        while (imports.find()) {
            due.holds("import " + imports.group(1), imports.group(1).equals("java.util.Arrays"));
        }
        Matcher library = Pattern.compile("\\b[A-Z][a-z]\\w*\\.\\w+").matcher(code.replaceAll("import [^;]*;", ""));
        while (library.find()) {
            due.holds("of the library: " + library.group(), LIBRARY.contains(library.group()));
        }
        for (int i = 0; i < text.length(); i++) {
            if (text.charAt(i) > 126) {
                due.holds("a plain sign at " + i, false);
            }
        }
        methodsAreShort(text.split("\n"));
    }

    /** Rule 7: for any arguments in any state, behind the 512th call too, where only answers are free. */
    private static void noCallThrows() throws IllegalAccessException {
        List<Method> calls = new ArrayList<>();
        for (Method method : SevenRounds.class.getDeclaredMethods()) {
            if (Modifier.isPublic(method.getModifiers())) {
                calls.add(method);
            }
        }
        // reflection promises no order, and a run must be the same each time
        calls.sort((a, b) -> a.getName().compareTo(b.getName()));
        Random random = new Random(7);
        for (int object = 0; object < 60; object++) {
            SevenRounds x = new SevenRounds();
            for (int call = 0; call < 2000; call++) {
                Method method = calls.get(random.nextInt(calls.size()));
                Object[] numbers = numbers(method, random);
                due.holds(method.getName() + Arrays.toString(numbers) + " throws nothing", answers(x, method, numbers));
            }
        }
    }

    private static Object[] numbers(Method method, Random random) {
        Object[] numbers = new Object[method.getParameterCount()];
        for (int i = 0; i < numbers.length; i++) {
            boolean isTruth = method.getParameterTypes()[i] == boolean.class;
            numbers[i] = isTruth ? (Object) random.nextBoolean() : (Object) NUMBERS[random.nextInt(NUMBERS.length)];
        }
        return numbers;
    }

    private static boolean answers(SevenRounds x, Method method, Object[] numbers) throws IllegalAccessException {
        try {
            method.invoke(x, numbers);
            return true;
        } catch (InvocationTargetException thrown) {
            System.out.println(thrown.getCause());
            return false;
        }
    }

    private static void methodsAreShort(String[] lines) {
        for (int i = 0; i < lines.length; i++) {
            Matcher head = Pattern.compile("^( {4}| {8})[a-zA-Z][^=;]*\\).*\\{$").matcher(lines[i]);
            if (head.matches() && !lines[i].contains(" class ")) {
                String end = head.group(1) + "}";
                int last = i;
                while (last < lines.length && !lines[last].equals(end)) {
                    last++;
                }
                due.holds("sixty lines at most: " + lines[i].trim(), last - i < 60);
            }
        }
    }
}
