import java.util.NoSuchElementException;

/** Promise 8: length. */
public final class LengthTest {
    private static final Check c = new Check();

    public static void main(String[] args) {
        LabelledVolume v = new LabelledVolume();
        v.create(1, 1, false);
        c.is(0, v.length(3), "length of a new file");
        for (int n = 1; n <= 17; n++) {
            v.write(3, n - 1, n);
            c.is(n, v.length(3), "length");
        }
        c.is(4, v.length(1), "length of the root");
        c.is(5, v.length(2), "length of the map");
        int[] noFile = {-1, 0, 4, 60, 61, Integer.MAX_VALUE};
        for (int file : noFile) {
            c.fails(NoSuchElementException.class, () -> v.length(file), "length of no file " + file);
        }
        c.misses(v, 0, "with right hints");

        v.ghost(3, 30);
        v.scratch(3);
        c.is(17, v.length(3), "length with the leader elsewhere");
        c.misses(v, 1, "of the remembered leader");
        c.is(17, v.length(3), "length again");
        c.misses(v, 1, "as the found one is remembered");

        v.scratch(6);
        c.is(17, v.length(3), "length by the hint of a broken file");
        v.spoil(30, 3, 6);
        c.fails(IllegalStateException.class, () -> v.length(3), "length of a broken file");
        c.misses(v, 3, "of the hint and of page 2");

        v.charge(0);
        c.is(4, v.length(1), "length writes nothing");
        c.fails(UnsupportedOperationException.class, () -> v.create(1, 2, false), "create with charge 0");
        c.fails(UnsupportedOperationException.class, () -> v.length(99), "length without power");
        c.end();
    }
}
