import java.io.IOException;
import java.lang.reflect.Constructor;
import java.lang.reflect.Field;
import java.lang.reflect.Method;
import java.lang.reflect.Modifier;
import java.nio.file.Files;
import java.nio.file.Path;
import java.util.Arrays;
import java.util.List;
import java.util.Set;
import java.util.TreeSet;

/** The public face as the document has it, and the rules of LANGUAGE.md that can be seen from outside. */
public final class FaceTest {
    private static final Check c = new Check();
    private static final Path SOURCE = Path.of("src/main/java/LabelledVolume.java");
    private static final String POWER = " UnsupportedOperationException";
    private static final String NONE = " NoSuchElementException";
    private static final String ARGUMENT = " IllegalArgumentException";
    private static final String STATE = " IllegalStateException";
    private static final String INDEX = " IndexOutOfBoundsException";

    private static final List<String> FACE = List.of(
            "int create(int, int, boolean)" + POWER + NONE + ARGUMENT + STATE,
            "int open(int, int)" + POWER + NONE + ARGUMENT + STATE,
            "int read(int, int)" + POWER + NONE + STATE + INDEX,
            "void write(int, int, int)" + POWER + NONE + ARGUMENT + STATE + INDEX,
            "void shorten(int, int)" + POWER + NONE + ARGUMENT + STATE + INDEX,
            "int remove(int, int)" + POWER + NONE + ARGUMENT + STATE,
            "int length(int)" + POWER + NONE + STATE,
            "int entry(int, int, int)" + POWER + NONE + ARGUMENT + STATE,
            "int scavenge()",
            "void charge(int)" + ARGUMENT + POWER,
            "boolean spoil(int, int, int)",
            "boolean scratch(int)",
            "boolean ghost(int, int)",
            "int label(int, int)",
            "int data(int, int)",
            "int state(int)",
            "int report(int)");

    public static void main(String[] args) throws IOException {
        members();
        nestedClasses();
        source();
        c.end();
    }

    private static String text(Method m) {
        StringBuilder text = new StringBuilder(m.getReturnType().getSimpleName() + " " + m.getName() + "(");
        String comma = "";
        for (Class<?> type : m.getParameterTypes()) {
            text.append(comma).append(type.getSimpleName());
            comma = ", ";
        }
        text.append(")");
        for (Class<?> type : m.getExceptionTypes()) {
            text.append(" ").append(type.getSimpleName());
        }
        return text.toString();
    }

    private static void members() {
        Class<?> type = LabelledVolume.class;
        c.is(Modifier.PUBLIC | Modifier.FINAL, type.getModifiers(), "modifiers of the class");
        Constructor<?>[] constructors = type.getDeclaredConstructors();
        c.is(1, constructors.length, "constructors");
        c.is(0, constructors[0].getParameterCount(), "parameters of the constructor");
        c.is(Modifier.PUBLIC, constructors[0].getModifiers(), "modifiers of the constructor");
        Set<String> found = new TreeSet<>();
        for (Method m : type.getDeclaredMethods()) {
            if (!Modifier.isPrivate(m.getModifiers())) {
                found.add(text(m));
                c.is(Modifier.PUBLIC, m.getModifiers(), "modifiers of " + m.getName());
            }
        }
        c.note(found.equals(new TreeSet<>(FACE)), "the face is " + found);
        for (Field f : type.getDeclaredFields()) {
            c.is(true, Modifier.isPrivate(f.getModifiers()), f.getName() + " is private");
        }
    }

    private static void nestedClasses() {
        Set<String> publicNames = new TreeSet<>();
        for (String method : FACE) {
            publicNames.add(method.substring(method.indexOf(' ') + 1, method.indexOf('(')));
        }
        Class<?>[] nested = LabelledVolume.class.getDeclaredClasses();
        c.is(true, nested.length <= 12, "at most twelve classes");
        for (Class<?> type : nested) {
            c.is(true, Modifier.isStatic(type.getModifiers()), type.getSimpleName() + " is static");
            c.is(true, Modifier.isPrivate(type.getModifiers()), type.getSimpleName() + " is private");
            for (Method m : type.getDeclaredMethods()) {
                c.is(false, publicNames.contains(m.getName()), m.getName() + " has a name of the face");
                c.is(true, m.getParameterCount() <= 7, m.getName() + " has at most seven parameters");
            }
            for (Field f : type.getDeclaredFields()) {
                boolean constant = Modifier.isFinal(f.getModifiers()) || !Modifier.isStatic(f.getModifiers());
                c.is(true, constant, f.getName() + " is final if it is static");
            }
        }
        for (Method m : LabelledVolume.class.getDeclaredMethods()) {
            boolean doubled = Modifier.isPrivate(m.getModifiers()) && publicNames.contains(m.getName());
            c.is(false, doubled, m.getName() + " is private with a name of the face");
        }
    }

    private static void source() throws IOException {
        String text = Files.readString(SOURCE);
        List<String> never = Arrays.asList("->", "::", "synchronized", "assert ", "finally", "try {", "catch (",
                "package ", "hashCode", "toString", "System.out", "Random", "Thread", "Exact(", "instanceof");
        for (String word : never) {
            c.is(false, text.contains(word), "the program has '" + word + "'");
        }
        int imports = 0;
        for (String line : text.split("\n")) {
            imports += line.startsWith("import ") ? 1 : 0;
        }
        c.is(1, imports, "imports");
        c.is(true, text.contains("import java.util.NoSuchElementException;"), "the import of the face");
    }
}
