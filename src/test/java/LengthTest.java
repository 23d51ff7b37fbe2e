import java.util.NoSuchElementException;

/** Promise 8: length. */
public final class LengthTest {
    private static final Check c = new Check();

    public static void main(String[] args) {
        lengths();
        rootAndMap();
        noFile();
        leaderElsewhere();
        broken();
        withoutPower();
        c.end();
    }

    /** "Its LENGTH is 8 * (that page - 1) + USED there, 0 if that is the leader." */
    private static void lengths() {
        LabelledVolume v = Volumes.withFile(0);
        c.is(0, v.length(3), "length of a new file");
        for (int n = 1; n <= 17; n++) {
            v.write(3, n - 1, n);
            c.is(n, v.length(3), "length");
        }
        for (int n = 16; n >= 0; n--) {
            v.shorten(3, n);
            c.is(n, v.length(3), "length behind shorten");
        }
        c.misses(v, 0, "with right hints");
    }

    private static void rootAndMap() {
        for (int files = 0; files <= 5; files++) {
            LabelledVolume v = Volumes.withFiles(files);
            c.is(4 * files, v.length(1), "length of a root with " + files + " entries");
            c.is(5, v.length(2), "length of the map");
        }
    }

    private static void noFile() {
        LabelledVolume v = Volumes.withFile(17);
        int[] none = {-1, 0, 4, 60, 61, Integer.MAX_VALUE, Integer.MIN_VALUE};
        for (int file : none) {
            c.fails(NoSuchElementException.class, () -> v.length(file), "length of no file " + file);
        }
        c.misses(v, 0, "as nothing is looked at");
    }

    private static void leaderElsewhere() {
        LabelledVolume v = Volumes.withFile(17);
        v.ghost(3, 30);
        v.scratch(3);
        c.is(17, v.length(3), "length with the leader elsewhere");
        c.misses(v, 1, "of the remembered leader");
        c.is(17, v.length(3), "length again");
        c.misses(v, 1, "as the found one is remembered");
    }

    private static void broken() {
        LabelledVolume v = Volumes.withFile(17);
        v.scratch(6);
        c.is(17, v.length(3), "length by the hint of a broken file");
        v.spoil(3, 3, 6);
        c.fails(IllegalStateException.class, () -> v.length(3), "length of a broken file");
        c.misses(v, 2, "of the hint and of page 2");
    }

    private static void withoutPower() {
        LabelledVolume v = Volumes.withFile(17);
        v.charge(0);
        c.is(4, v.length(1), "length writes nothing");
        c.fails(UnsupportedOperationException.class, () -> v.create(1, 2, false), "create with charge 0");
        c.fails(UnsupportedOperationException.class, () -> v.length(99), "length without power");
    }
}
