import java.io.DataInputStream;
import java.io.IOException;
import java.io.InputStream;
import java.util.Set;
import java.util.TreeSet;

/** What a compiled class names of other classes: all of it stands in the pool of constants that it begins with. */
final class ClassFile {
    private static final int MAGIC = 0xCAFEBABE;

    private final int[] tags;
    private final int[] firsts;
    private final int[] seconds;
    private final String[] texts;

    private ClassFile(int size) {
        tags = new int[size];
        firsts = new int[size];
        seconds = new int[size];
        texts = new String[size];
    }

    static ClassFile of(Class<?> type) throws IOException {
        try (InputStream raw = type.getResourceAsStream("/" + type.getName() + ".class");
                DataInputStream in = new DataInputStream(raw)) {
            if (in.readInt() != MAGIC) {
                throw new IOException("no class file of " + type.getName());
            }
            in.readInt();
            int size = in.readUnsignedShort();
            ClassFile file = new ClassFile(size);
            for (int k = 1; k < size; k++) {
                file.readConstant(in, k);
                // A long or a double takes the place behind it, too.
                k += file.tags[k] == 5 || file.tags[k] == 6 ? 1 : 0;
            }
            return file;
        }
    }

    private void readConstant(DataInputStream in, int k) throws IOException {
        tags[k] = in.readUnsignedByte();
        switch (tags[k]) {
            case 1 -> texts[k] = in.readUTF();
            case 3, 4 -> in.readInt();
            case 5, 6 -> in.readLong();
            case 7, 8, 16, 19, 20 -> firsts[k] = in.readUnsignedShort();
            case 9, 10, 11, 12, 17, 18 -> {
                firsts[k] = in.readUnsignedShort();
                seconds[k] = in.readUnsignedShort();
            }
            case 15 -> {
                in.readUnsignedByte();
                in.readUnsignedShort();
            }
            default -> throw new IOException("no such constant: " + tags[k]);
        }
    }

    boolean hasText(String text) {
        for (String own : texts) {
            if (text.equals(own)) {
                return true;
            }
        }
        return false;
    }

    /** Lambdas, method references and texts that are joined by +. */
    boolean linksAtRunTime() {
        for (int tag : tags) {
            if (tag >= 15 && tag <= 18) {
                return true;
            }
        }
        return false;
    }

    /** The methods of other classes that are called, like java/lang/Object.<init>. */
    Set<String> methods() {
        Set<String> found = new TreeSet<>();
        for (int k = 1; k < tags.length; k++) {
            if (tags[k] == 10 || tags[k] == 11) {
                found.add(texts[firsts[firsts[k]]] + "." + texts[firsts[seconds[k]]]);
            }
        }
        return found;
    }

    /** The classes that are named anywhere, those of arrays among them. */
    Set<String> classes() {
        Set<String> found = new TreeSet<>();
        for (int k = 1; k < tags.length; k++) {
            if (tags[k] == 7) {
                found.add(texts[firsts[k]]);
            }
        }
        return found;
    }
}
