import java.lang.reflect.Constructor;
import java.lang.reflect.Field;
import java.lang.reflect.Method;
import java.lang.reflect.Modifier;
import java.nio.file.Files;
import java.nio.file.Path;
import java.util.Arrays;
import java.util.Set;
import java.util.TreeSet;

/** The face as the document tells it, and what of LANGUAGE.md can be seen from outside or in the text. */
public final class FaceTest {
    private static final Check check = new Check("FaceTest");
    private static final String[] FACE = {
        "int feed int int int int int", "int abbey int ! IllegalArgumentException",
        "int law int ! IllegalArgumentException", "int work int ! IllegalArgumentException",
        "int book int ! IllegalArgumentException", "int fault", "int undo", "int told int ! IllegalArgumentException",
        "int many int ! IllegalArgumentException",
        "int monk int int ! NoSuchElementException IllegalArgumentException",
        "int village int int ! NoSuchElementException IllegalArgumentException",
        "int cell int ! NoSuchElementException", "int heir int ! NoSuchElementException", "int strokes",
        "int would int int int int int int int ! IllegalArgumentException",
        "int noise int int ! NoSuchElementException IllegalArgumentException",
        "int ahead int int ! IllegalArgumentException", "int loudest int ! IllegalArgumentException",
        "int hush int ! IllegalArgumentException", "int plan int int int int ! IllegalArgumentException",
        "int fits int ! IllegalArgumentException", "int count int ! IllegalArgumentException",
        "long mistaken int int int int int int ! IllegalArgumentException",
        "int best int int int ! IllegalArgumentException", "int beds int ! IllegalArgumentException",
        "int bed int int ! NoSuchElementException IllegalArgumentException",
        "int watch int int ! NoSuchElementException IllegalArgumentException",
        "int heirs int int ! IllegalArgumentException", "int sleepers int ! IllegalArgumentException",
        "int grows int ! IllegalArgumentException", "int bears int int ! NoSuchElementException",
        "int level int ! IllegalArgumentException",
        "int years int int int int int int ! IllegalArgumentException",
        "int span int int int int int int int ! IllegalArgumentException", "int image", "int restore",
        "int status int", "int kept int",
    };

    public static void main(String[] args) throws Exception {
        members();
        classesInside();
        text(Files.readString(Path.of("src/main/java/OwedBell.java")));
        check.end();
    }

    private static void members() {
        Class<?> bell = OwedBell.class;
        check.isTrue("public and final", Modifier.isPublic(bell.getModifiers()) && Modifier.isFinal(bell.getModifiers()));
        Set<String> due = new TreeSet<>(Arrays.asList(FACE));
        Set<String> got = new TreeSet<>();
        Set<String> names = new TreeSet<>();
        for (Method m : bell.getDeclaredMethods()) {
            if (!Modifier.isPrivate(m.getModifiers())) {
                check.isTrue(m + " is public, of an object", Modifier.isPublic(m.getModifiers()) && !Modifier.isStatic(m.getModifiers()));
                got.add(written(m));
                names.add(m.getName());
            }
        }
        check.isTrue("the face is " + due + ", here " + got, got.equals(due));
        for (Class<?> c : all()) {
            for (Method m : c.getDeclaredMethods()) {
                boolean free = !names.contains(m.getName()) || c == bell && Modifier.isPublic(m.getModifiers());
                check.isTrue(m + " bears a name of its own", free);
                check.isTrue(m + " takes seven at most", m.getParameterCount() <= 7);
            }
        }
        for (Field f : bell.getDeclaredFields()) {
            check.isTrue(f + " is private", Modifier.isPrivate(f.getModifiers()) || f.getName().equals("NONE"));
        }
        Constructor<?>[] made = bell.getDeclaredConstructors();
        check.isTrue("one constructor", made.length == 1 && Modifier.isPublic(made[0].getModifiers()) && made[0].getParameterCount() == 0);
    }

    private static String written(Method m) {
        StringBuilder text = new StringBuilder(m.getReturnType().getName() + " " + m.getName());
        for (Class<?> p : m.getParameterTypes()) {
            text.append(' ').append(p.getName());
        }
        for (int i = 0; i < m.getExceptionTypes().length; i++) {
            text.append(i == 0 ? " ! " : " ").append(m.getExceptionTypes()[i].getSimpleName());
        }
        return text.toString();
    }

    private static Set<Class<?>> all() {
        Set<Class<?>> all = new java.util.HashSet<>(Arrays.asList(OwedBell.class.getDeclaredClasses()));
        all.add(OwedBell.class);
        return all;
    }

    private static void classesInside() {
        check.isTrue("some twelve classes", all().size() <= 12);
        for (Class<?> c : all()) {
            int fields = 0;
            for (Field f : c.getDeclaredFields()) {
                boolean constant = Modifier.isStatic(f.getModifiers());
                check.isTrue(f + " is final, if static", !constant || Modifier.isFinal(f.getModifiers()));
                fields += constant ? 0 : 1;
            }
            check.isTrue(c + " has some twenty fields", fields <= 20);
            check.isTrue(c + " is static inside", c == OwedBell.class || Modifier.isStatic(c.getModifiers()));
        }
    }

    private static void text(String source) {
        String[] none = {"catch", "finally", "try {", "->", "::", "synchronized", "assert", "Exact(", "instanceof",
            "package ", "System.", "Object", "MAX_VALUE", "MIN_VALUE", "while (true)", "for (;;)", "static {",
            "equals(", "hashCode", "toString", "Random", "Thread", "double", "float", "\" +", "+ \""};
        for (String word : none) {
            check.isTrue("no " + word, !source.contains(word));
        }
        int line = 0;
        int begun = 0;
        for (String text : source.split("\n")) {
            line++;
            if (text.matches("( {4}){1,2}(public|private|static|final|int|boolean|void|long)[^=;]*\\{")) {
                begun = line;
            }
            if (text.matches("( {4}){1,2}\\}") && !text.contains("class")) {
                check.isTrue("line " + begun + ": a method of some sixty lines", line - begun <= 60 || !isMethod(source, begun));
            }
            check.isTrue("line " + line + " is ASCII, 120 signs at most", text.length() <= 120 && text.chars().allMatch(c -> c < 127));
        }
    }

    private static boolean isMethod(String source, int line) {
        return !source.split("\n")[line - 1].contains(" class ");
    }
}
