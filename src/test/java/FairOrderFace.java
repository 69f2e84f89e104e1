import java.io.IOException;
import java.lang.reflect.Constructor;
import java.lang.reflect.Field;
import java.lang.reflect.Method;
import java.lang.reflect.Modifier;
import java.nio.file.Files;
import java.nio.file.Path;
import java.util.Set;
import java.util.TreeSet;
import java.util.regex.Matcher;
import java.util.regex.Pattern;

/** The class has the document's face and no other member that can be seen, and keeps to LANGUAGE.md. */
public final class FairOrderFace {
    private static final Set<String> FACE = Set.of(
        "int clear()", "int account(long,long)", "int pool(long,long)", "long seal(int,int,int,int)",
        "int commit(int,long,long)", "int hear(int,int,int)", "int open(int,int,int,int,int)", "int next()",
        "int order(int,long)", "int at(int)", "int linked(int,int)", "int heard(int)", "int play()",
        "int batch()", "int done(int)", "long passed(int)", "long gain(int,int,int)", "long has(int,int)",
        "int of(int,int)", "int count(int)");
    private static final Set<String> CONSTANTS = Set.of("NONE", "BAD", "FULL", "WHEN", "SHORT", "OTHER");
    private static final String[] FORBIDDEN = {
        "\\bthrows?\\b", "\\btry\\b", "\\bcatch\\b", "\\bsynchronized\\b", "\\bassert\\b", "Exact\\b",
        "->", "::", "\\bpackage\\b", "\\bstatic\\s*\\{", "\\bnew \\w+\\([^)]*\\)\\s*\\{",
        "\\bObject\\b", "\\bThread\\b"};
    private static final Set<String> IMPORTS = Set.of("java.util.Arrays", "java.util.ArrayList", "java.util.List");
    private static final Pattern ALLOWED_USE = Pattern.compile(
        "Arrays\\.(fill|copyOf|copyOfRange)|System\\.arraycopy|(Integer|Long|Math)\\.\\w+");
    private static final int MOST_CLASSES = 12, MOST_FIELDS = 20, MOST_PARAMETERS = 7, MOST_LINES = 60;

    private static int wrong = 0;

    private static void check(boolean holds, String what) {
        if (!holds) {
            wrong++;
            System.out.println("does not hold: " + what);
        }
    }

    public static void main(String[] args) throws IOException {
        checkMethods();
        checkFields();
        checkConstructorsAndClasses();
        String text = Files.readString(Path.of("src/main/java/FairOrder.java"));
        checkSizes();
        checkWords(withoutComments(text));
        checkLibrary(withoutComments(text));
        checkLines(text);
        System.out.println(wrong == 0 ? "the face is as due" : wrong + " things are not as due");
        if (wrong != 0) {
            System.exit(1);
        }
    }

    private static String textOf(Method m) {
        StringBuilder text = new StringBuilder(m.getReturnType().getName() + " " + m.getName() + "(");
        for (int i = 0; i < m.getParameterCount(); i++) {
            text.append(i == 0 ? "" : ",").append(m.getParameterTypes()[i].getName());
        }
        return text.append(")").toString();
    }

    private static void checkMethods() {
        Set<String> publicTexts = new TreeSet<>();
        Set<String> publicNames = new TreeSet<>();
        Set<String> privateNames = new TreeSet<>();
        for (Method m : FairOrder.class.getDeclaredMethods()) {
            if (Modifier.isPublic(m.getModifiers())) {
                publicTexts.add(textOf(m));
                publicNames.add(m.getName());
                check(!Modifier.isStatic(m.getModifiers()), m + " is no static method");
            } else {
                privateNames.add(m.getName());
                check(Modifier.isPrivate(m.getModifiers()), m + " is private");
            }
        }
        check(publicTexts.equals(new TreeSet<>(FACE)), "the public methods are the document's: " + publicTexts);
        for (String name : privateNames) {
            check(!publicNames.contains(name), "no private method has a public one's name: " + name);
        }
    }

    private static void checkFields() {
        Set<String> publicNames = new TreeSet<>();
        for (Field f : FairOrder.class.getDeclaredFields()) {
            int m = f.getModifiers();
            if (Modifier.isPublic(m)) {
                publicNames.add(f.getName());
                check(f.getType() == int.class && Modifier.isStatic(m), f + " is a constant of int");
            } else {
                check(Modifier.isPrivate(m), f + " is private");
            }
            check(!Modifier.isStatic(m) || Modifier.isFinal(m), f + " is final, if static");
        }
        check(publicNames.equals(new TreeSet<>(CONSTANTS)), "the constants are the document's: " + publicNames);
    }

    private static void checkConstructorsAndClasses() {
        Constructor<?>[] all = FairOrder.class.getDeclaredConstructors();
        check(all.length == 1 && all[0].getParameterCount() == 0 && Modifier.isPublic(all[0].getModifiers()),
            "one public constructor without parameters");
        check(Modifier.isFinal(FairOrder.class.getModifiers()), "the class is final");
        check(Modifier.isPublic(FairOrder.class.getModifiers()), "the class is public");
        for (Class<?> inside : FairOrder.class.getDeclaredClasses()) {
            check(Modifier.isStatic(inside.getModifiers()), inside + " is static");
            check(!Modifier.isPublic(inside.getModifiers()), inside + " is not public");
        }
    }

    private static String withoutComments(String text) {
        return text.replaceAll("(?s)/\\*.*?\\*/", "").replaceAll("//[^\n]*", "");
    }

    private static void checkWords(String text) {
        for (String word : FORBIDDEN) {
            check(!Pattern.compile(word).matcher(text).find(), "the program has no " + word);
        }
        check(text.chars().allMatch(c -> c < 128), "the program has plain characters alone");
    }

    private static void checkLibrary(String text) {
        Matcher imports = Pattern.compile("\\bimport ([\\w.* ]+);").matcher(text);
        while (imports.find()) {
            check(IMPORTS.contains(imports.group(1)), "it may import " + imports.group(1));
        }
        Matcher uses = Pattern.compile("\\b[A-Z]\\w*\\.\\w+").matcher(text);
        while (uses.find()) {
            check(ALLOWED_USE.matcher(uses.group()).matches(), "it may use " + uses.group());
        }
        String body = text.substring(text.indexOf("public final class"));
        check(!Pattern.compile("\\bjavax?\\.").matcher(body).find(), "the library is named in imports alone");
    }

    private static void checkSizes() {
        Class<?>[] inside = FairOrder.class.getDeclaredClasses();
        check(inside.length + 1 <= MOST_CLASSES, "the file has few classes: " + (inside.length + 1));
        checkSizesOf(FairOrder.class);
        for (Class<?> c : inside) {
            checkSizesOf(c);
        }
    }

    private static void checkSizesOf(Class<?> c) {
        int fields = 0;
        for (Field f : c.getDeclaredFields()) {
            fields += Modifier.isStatic(f.getModifiers()) ? 0 : 1;
        }
        check(fields <= MOST_FIELDS, c + " has few fields: " + fields);
        for (Method m : c.getDeclaredMethods()) {
            check(m.getParameterCount() <= MOST_PARAMETERS, m + " takes few parameters");
            check(c == FairOrder.class || FACE.stream().noneMatch(f -> f.contains(" " + m.getName() + "(")),
                m + " has no public method's name");
        }
    }

    // Methods end with a brace of the depth at which they began, as the file is indented by fours.
    private static void checkLines(String text) {
        String[] lines = text.split("\n");
        for (int i = 0; i < lines.length; i++) {
            Matcher begin = Pattern.compile("( {4}| {8})(?! )(?!.*\\bclass\\b).*\\) \\{").matcher(lines[i]);
            if (begin.matches()) {
                int end = i;
                while (end < lines.length && !lines[end].equals(begin.group(1) + "}")) {
                    end++;
                }
                check(end - i < MOST_LINES, "a method is short: " + lines[i].trim());
            }
        }
    }
}
