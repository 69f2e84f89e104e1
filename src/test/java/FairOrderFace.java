import java.io.IOException;
import java.lang.reflect.Constructor;
import java.lang.reflect.Field;
import java.lang.reflect.Method;
import java.lang.reflect.Modifier;
import java.nio.file.Files;
import java.nio.file.Path;
import java.util.Set;
import java.util.TreeSet;
import java.util.regex.Pattern;

/** The class has the document's face and no other member that can be seen, and keeps to plain Java. */
public final class FairOrderFace {
    private static final Set<String> FACE = Set.of(
        "int clear()", "int account(long,long)", "int pool(long,long)", "long seal(int,int,int,int)",
        "int commit(int,long,long)", "int hear(int,int,int)", "int open(int,int,int,int,int)", "int next()",
        "int order(int,long)", "int at(int)", "int linked(int,int)", "int heard(int)", "int play()",
        "int batch()", "int done(int)", "long passed(int)", "long gain(int,int,int)", "long has(int,int)",
        "int of(int,int)", "int count(int)");
    private static final Set<String> CONSTANTS = Set.of("NONE", "BAD", "FULL", "WHEN", "SHORT", "OTHER");
    private static final String[] FORBIDDEN = {
        "\\bthrow\\b", "\\btry\\b", "\\bcatch\\b", "\\bsynchronized\\b", "\\bassert\\b", "Exact\\b",
        "->", "::", "\\bpackage\\b"};

    private static int wrong = 0;

    private static void check(boolean holds, String what) {
        if (!holds) {
            wrong++;
            System.out.println("does not hold: " + what);
        }
    }

    public static void main(String[] args) throws IOException {
        checkMethods();
        checkFields();
        checkConstructorsAndClasses();
        checkWords();
        System.out.println(wrong == 0 ? "the face is as due" : wrong + " things are not as due");
        if (wrong != 0) {
            System.exit(1);
        }
    }

    private static String textOf(Method m) {
        StringBuilder text = new StringBuilder(m.getReturnType().getName() + " " + m.getName() + "(");
        for (int i = 0; i < m.getParameterCount(); i++) {
            text.append(i == 0 ? "" : ",").append(m.getParameterTypes()[i].getName());
        }
        return text.append(")").toString();
    }

    private static void checkMethods() {
        Set<String> publicTexts = new TreeSet<>();
        Set<String> publicNames = new TreeSet<>();
        Set<String> privateNames = new TreeSet<>();
        for (Method m : FairOrder.class.getDeclaredMethods()) {
            if (Modifier.isPublic(m.getModifiers())) {
                publicTexts.add(textOf(m));
                publicNames.add(m.getName());
                check(!Modifier.isStatic(m.getModifiers()), m + " is no static method");
            } else {
                privateNames.add(m.getName());
                check(Modifier.isPrivate(m.getModifiers()), m + " is private");
            }
        }
        check(publicTexts.equals(new TreeSet<>(FACE)), "the public methods are the document's: " + publicTexts);
        for (String name : privateNames) {
            check(!publicNames.contains(name), "no private method has a public one's name: " + name);
        }
    }

    private static void checkFields() {
        Set<String> publicNames = new TreeSet<>();
        for (Field f : FairOrder.class.getDeclaredFields()) {
            int m = f.getModifiers();
            if (Modifier.isPublic(m)) {
                publicNames.add(f.getName());
                check(f.getType() == int.class && Modifier.isStatic(m), f + " is a constant of int");
            } else {
                check(Modifier.isPrivate(m), f + " is private");
            }
            check(!Modifier.isStatic(m) || Modifier.isFinal(m), f + " is final, if static");
        }
        check(publicNames.equals(new TreeSet<>(CONSTANTS)), "the constants are the document's: " + publicNames);
    }

    private static void checkConstructorsAndClasses() {
        Constructor<?>[] all = FairOrder.class.getDeclaredConstructors();
        check(all.length == 1 && all[0].getParameterCount() == 0 && Modifier.isPublic(all[0].getModifiers()),
            "one public constructor without parameters");
        check(Modifier.isFinal(FairOrder.class.getModifiers()), "the class is final");
        check(Modifier.isPublic(FairOrder.class.getModifiers()), "the class is public");
        for (Class<?> inside : FairOrder.class.getDeclaredClasses()) {
            check(Modifier.isStatic(inside.getModifiers()), inside + " is static");
            check(!Modifier.isPublic(inside.getModifiers()), inside + " is not public");
        }
    }

    private static void checkWords() throws IOException {
        String text = Files.readString(Path.of("src/main/java/FairOrder.java"));
        for (String word : FORBIDDEN) {
            check(!Pattern.compile(word).matcher(text).find(), "the program has no " + word);
        }
    }
}
