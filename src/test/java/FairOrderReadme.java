import java.io.IOException;
import java.lang.reflect.InvocationTargetException;
import java.lang.reflect.Method;
import java.lang.reflect.Modifier;
import java.nio.file.Files;
import java.nio.file.Path;
import java.util.Map;
import java.util.Set;
import java.util.TreeMap;
import java.util.TreeSet;
import java.util.regex.Matcher;
import java.util.regex.Pattern;

/** Makes the calls that README.md shows, so that what it tells users stays true. */
public final class FairOrderReadme {
    private static final Pattern CALL = Pattern.compile("x\\.(\\w+)\\((.*?)\\);\\s*// (-?\\d+)(:.*)?");
    private static final Pattern CONSTANT = Pattern.compile("\\| `([A-Z]+)` (-\\d+) \\|.*");

    private static int wrong = 0;

    private static void check(boolean holds, String what) {
        if (!holds) {
            wrong++;
            System.out.println("README.md: " + what);
        }
    }

    public static void main(String[] args) throws IOException, ReflectiveOperationException {
        Map<String, Method> face = new TreeMap<>();
        for (Method m : FairOrder.class.getDeclaredMethods()) {
            if (Modifier.isPublic(m.getModifiers())) {
                face.put(m.getName(), m);
            }
        }
        String text = Files.readString(Path.of("README.md"));
        Set<String> shown = makeCalls(text, face);
        check(shown.equals(face.keySet()), "it shows each method, but has only " + shown);
        checkConstants(text);
        checkTestsAreNamed(text);
        System.out.println(wrong == 0 ? "README.md is as due" : wrong + " things in README.md are not as due");
        if (wrong != 0) {
            System.exit(1);
        }
    }

    private static Set<String> makeCalls(String text, Map<String, Method> face) throws ReflectiveOperationException {
        Set<String> shown = new TreeSet<>();
        FairOrder x = new FairOrder();
        for (String line : text.split("\n")) {
            Matcher m = CALL.matcher(line);
            if (!m.matches() || !face.containsKey(m.group(1))) {
                check(!line.startsWith("x."), "no call with its answer: " + line);
                continue;
            }
            shown.add(m.group(1));
            long got = answer(x, face.get(m.group(1)), m.group(2));
            check(got == Long.parseLong(m.group(3)), line + " -- answered " + got);
        }
        return shown;
    }

    private static long answer(FairOrder x, Method method, String list)
            throws IllegalAccessException, InvocationTargetException {
        String[] texts = list.isEmpty() ? new String[0] : list.split(", ");
        Object[] values = new Object[texts.length];
        for (int i = 0; i < texts.length; i++) {
            boolean isInt = method.getParameterTypes()[i] == int.class;
            values[i] = isInt ? (Object) Integer.valueOf(texts[i]) : (Object) Long.valueOf(texts[i].replace("L", ""));
        }
        return ((Number) method.invoke(x, values)).longValue();
    }

    private static void checkConstants(String text) throws ReflectiveOperationException {
        int found = 0;
        for (String line : text.split("\n")) {
            Matcher m = CONSTANT.matcher(line);
            if (m.matches()) {
                found++;
                int value = FairOrder.class.getField(m.group(1)).getInt(null);
                check(value == Integer.parseInt(m.group(2)), m.group(1) + " is " + value);
            }
        }
        check(found == 6, "it tells six constants, but has " + found);
    }

    private static void checkTestsAreNamed(String text) {
        String[] files = Path.of("src/test/java").toFile().list();
        check(files != null, "there are tests");
        for (String file : files == null ? new String[0] : files) {
            check(text.contains("`src/test/java/" + file + "`"), "it names the test " + file);
        }
    }
}
