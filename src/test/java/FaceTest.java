import java.lang.reflect.Constructor;
import java.lang.reflect.Field;
import java.lang.reflect.Method;
import java.lang.reflect.Modifier;
import java.util.List;
import java.util.Set;
import java.util.TreeSet;

/** The public face as the document has it: nothing is missing, and nothing else can be seen from outside. */
public final class FaceTest {
    private static final Check c = new Check();
    private static final String POWER = " UnsupportedOperationException";
    private static final String NONE = " NoSuchElementException";
    private static final String ARGUMENT = " IllegalArgumentException";
    private static final String STATE = " IllegalStateException";
    private static final String INDEX = " IndexOutOfBoundsException";

    private static final List<String> FACE = List.of(
            "int create(int, int, boolean)" + POWER + NONE + ARGUMENT + STATE,
            "int open(int, int)" + POWER + NONE + ARGUMENT + STATE,
            "int read(int, int)" + POWER + NONE + STATE + INDEX,
            "void write(int, int, int)" + POWER + NONE + ARGUMENT + STATE + INDEX,
            "void shorten(int, int)" + POWER + NONE + ARGUMENT + STATE + INDEX,
            "int remove(int, int)" + POWER + NONE + ARGUMENT + STATE,
            "int length(int)" + POWER + NONE + STATE,
            "int entry(int, int, int)" + POWER + NONE + ARGUMENT + STATE,
            "int scavenge()",
            "void charge(int)" + ARGUMENT + POWER,
            "boolean spoil(int, int, int)",
            "boolean scratch(int)",
            "boolean ghost(int, int)",
            "int label(int, int)",
            "int data(int, int)",
            "int state(int)",
            "int report(int)");

    public static void main(String[] args) {
        members();
        c.end();
    }

    private static String text(Method m) {
        StringBuilder text = new StringBuilder(m.getReturnType().getSimpleName() + " " + m.getName() + "(");
        String comma = "";
        for (Class<?> type : m.getParameterTypes()) {
            text.append(comma).append(type.getSimpleName());
            comma = ", ";
        }
        text.append(")");
        for (Class<?> type : m.getExceptionTypes()) {
            text.append(" ").append(type.getSimpleName());
        }
        return text.toString();
    }

    private static void members() {
        Class<?> type = LabelledVolume.class;
        c.is(Modifier.PUBLIC | Modifier.FINAL, type.getModifiers(), "modifiers of the class");
        Constructor<?>[] constructors = type.getDeclaredConstructors();
        c.is(1, constructors.length, "constructors");
        c.is(0, constructors[0].getParameterCount(), "parameters of the constructor");
        c.is(Modifier.PUBLIC, constructors[0].getModifiers(), "modifiers of the constructor");
        Set<String> found = new TreeSet<>();
        for (Method m : type.getDeclaredMethods()) {
            if (!Modifier.isPrivate(m.getModifiers())) {
                found.add(text(m));
                c.is(Modifier.PUBLIC, m.getModifiers(), "modifiers of " + m.getName());
            }
        }
        c.note(found.equals(new TreeSet<>(FACE)), "the face is " + found);
        for (Field f : type.getDeclaredFields()) {
            c.is(true, Modifier.isPrivate(f.getModifiers()), f.getName() + " is private");
        }
    }
}
