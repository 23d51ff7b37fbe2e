import java.io.IOException;
import java.lang.reflect.Field;
import java.lang.reflect.Method;
import java.lang.reflect.Modifier;
import java.util.ArrayList;
import java.util.List;
import java.util.Set;
import java.util.TreeSet;
import java.util.regex.Matcher;
import java.util.regex.Pattern;

/** The rules of LANGUAGE.md, as far as they can be seen by reflection, in the class files or in the source. */
public final class LanguageTest {
    private static final Check c = new Check();
    private static final Class<?> MAIN = LabelledVolume.class;

    private static final Set<String> EXCEPTIONS = Set.of("IllegalStateException", "IllegalArgumentException",
            "IndexOutOfBoundsException", "UnsupportedOperationException", "NoSuchElementException");
    private static final Set<Class<?>> CONSTANTS =
            Set.of(int.class, long.class, boolean.class, char.class, String.class);

    private final Source source;

    private LanguageTest(Source source) {
        this.source = source;
    }

    public static void main(String[] args) throws IOException {
        LanguageTest test = new LanguageTest(Source.ofProgram());
        test.namesOfTheFace();
        test.classesInside();
        test.types();
        test.library();
        test.staticFields();
        test.exceptions();
        test.sizes();
        test.madeObjects();
        test.sameAnswers();
        c.end();
    }

    private static List<Class<?>> classes() {
        List<Class<?>> all = new ArrayList<>(List.of(MAIN.getDeclaredClasses()));
        all.add(MAIN);
        return all;
    }

    private void hasNo(String... words) {
        for (String word : words) {
            c.is(false, source.has(word), "the program has '" + word + "'");
        }
    }

    /** Rule 1: "No private method bears the name of a public one." */
    private void namesOfTheFace() {
        Set<String> face = new TreeSet<>();
        for (Method m : MAIN.getDeclaredMethods()) {
            if (Modifier.isPublic(m.getModifiers())) {
                face.add(m.getName());
            }
        }
        for (Class<?> type : classes()) {
            for (Method m : type.getDeclaredMethods()) {
                boolean own = type != MAIN || Modifier.isPrivate(m.getModifiers());
                c.is(false, own && face.contains(m.getName()), m.getName() + " has a name of the face");
            }
        }
    }

    /** Rules 1 and 2: "the classes inside it, which are private or package-visible and static", "no lambda, ..". */
    private void classesInside() throws IOException {
        for (Class<?> type : MAIN.getDeclaredClasses()) {
            int visible = type.getModifiers() & (Modifier.PUBLIC | Modifier.PROTECTED);
            c.is(0, visible, type.getSimpleName() + " is public or protected, which");
            c.is(true, Modifier.isStatic(type.getModifiers()), type.getSimpleName() + " is static");
            c.is(false, ClassFile.of(type).linksAtRunTime(), type.getSimpleName() + " has a lambda");
        }
        c.is(false, ClassFile.of(MAIN).linksAtRunTime(), "the class has a lambda");
        hasNo("package ", "->", "::");
    }

    /** Rule 3, the part of it that the program needs. */
    private void types() {
        for (Class<?> type : classes()) {
            for (Field f : type.getDeclaredFields()) {
                Class<?> of = f.getType().isArray() ? f.getType().getComponentType() : f.getType();
                boolean fine = of == int.class || of == long.class || of == boolean.class || classes().contains(of);
                c.is(true, fine, f.getName() + " has a type that the rules name");
            }
        }
    }

    /** Rule 4: "The library: only what stands here." */
    private void library() throws IOException {
        for (Class<?> type : classes()) {
            for (String method : ClassFile.of(type).methods()) {
                c.is(true, isInTheRules(method), method + " is in the rules");
            }
        }
        c.is(true, source.has("import java.util.NoSuchElementException;"), "the import of the face");
        c.is(1, source.lines().stream().filter(line -> line.startsWith("import ")).count(), "imports");
    }

    private static boolean isInTheRules(String method) {
        String owner = method.substring(0, method.indexOf('.'));
        if (owner.equals("LabelledVolume") || owner.startsWith("LabelledVolume$")) {
            return true;
        }
        String exception = owner.substring(owner.lastIndexOf('/') + 1);
        return method.equals("java/lang/Object.<init>") || method.equals("java/lang/System.arraycopy")
                || EXCEPTIONS.contains(exception) && method.endsWith(".<init>");
    }

    /** Rule 5: "Static fields are final: constants of int, long, boolean, char or String, ..". */
    private void staticFields() throws IOException {
        for (Class<?> type : classes()) {
            for (Field f : type.getDeclaredFields()) {
                if (Modifier.isStatic(f.getModifiers())) {
                    c.is(true, Modifier.isFinal(f.getModifiers()), f.getName() + " is final");
                    c.is(true, CONSTANTS.contains(f.getType()), f.getName() + " is a constant");
                }
            }
            c.is(false, ClassFile.of(type).hasText("<clinit>"), type.getSimpleName() + " has a static block");
        }
    }

    /** Rule 6: "throw new E() ..", "no throw in a constructor", and nothing is caught. */
    private void exceptions() {
        Pattern right = Pattern.compile("\\s*throw new (\\w+)\\(\\);");
        for (Source.Part part : source.methods()) {
            for (String line : part.body()) {
                if (line.contains("throw ")) {
                    Matcher m = right.matcher(line);
                    c.is(true, m.matches() && EXCEPTIONS.contains(m.group(1)), line.trim() + " is in the rules");
                    c.is(false, part.isConstructor(), line.trim() + " stands in a constructor");
                }
            }
        }
        hasNo("try {", "catch (", "finally", "synchronized", "assert ", "instanceof", "equals(", "hashCode",
                "toString");
    }

    /** Rule 11: "A method takes at most seven parameters. Methods stay short (some sixty lines), ..". */
    private void sizes() {
        c.is(true, classes().size() <= 12, "at most twelve classes");
        int methods = 0;
        for (Class<?> type : classes()) {
            int fields = 0;
            for (Field f : type.getDeclaredFields()) {
                fields += Modifier.isStatic(f.getModifiers()) ? 0 : 1;
            }
            c.is(true, fields <= 20, type.getSimpleName() + " has at most twenty fields");
            for (Method m : type.getDeclaredMethods()) {
                c.is(true, m.getParameterCount() <= 7, m.getName() + " has at most seven parameters");
            }
            methods += type.getDeclaredMethods().length + type.getDeclaredConstructors().length;
        }
        // Disk has no constructor in the source.
        c.is(methods - 1, source.methods().size(), "methods that are seen in the source");
        for (Source.Part part : source.methods()) {
            c.is(true, part.body().size() < 60, part.head() + " is short");
        }
    }

    /** Rule 12: all is made in constructors, with their fields, but for what is thrown. */
    private void madeObjects() {
        for (Source.Part part : source.methods()) {
            for (String line : part.body()) {
                boolean makes = line.contains("new ") && !line.contains("throw new ");
                c.is(false, makes && !part.isConstructor(), line.trim() + " stands in " + part.head());
            }
        }
    }

    /** Rule 13: "No clock, no randomness, no file, network, thread or environment". */
    private void sameAnswers() throws IOException {
        for (Class<?> type : classes()) {
            for (String named : ClassFile.of(type).classes()) {
                boolean own = named.startsWith("LabelledVolume") || named.startsWith("[");
                boolean plain = named.equals("java/lang/Object") || named.equals("java/lang/System");
                boolean thrown = EXCEPTIONS.contains(named.substring(named.lastIndexOf('/') + 1));
                c.is(true, own || plain || thrown, named + " is in the rules");
            }
        }
    }
}
