import java.util.NoSuchElementException;

/** Promise 4: read, with the LAST page and the going to a page. */
public final class ReadTest {
    private static final Check c = new Check();

    public static void main(String[] args) {
        ordinary();
        directoriesAndTheMap();
        wrongInputs();
        lastHintIsChecked();
        linksAreHints();
        lastPageIsNotGoneTo();
        broken();
        withoutPower();
        c.end();
    }

    /** "Byte i (0 .. 255) of a file". */
    private static void ordinary() {
        LabelledVolume v = Volumes.withFile(20);
        for (int i = 0; i < 20; i++) {
            c.is(i + 1, v.read(3, i), "read(3, " + i + ")");
        }
        v.write(3, 0, 511);
        c.is(255, v.read(3, 0), "a byte is 0 .. 255");
        c.misses(v, 0, "with right hints");
    }

    /** "(also of a directory or the map)". */
    private static void directoriesAndTheMap() {
        LabelledVolume v = Volumes.withFile(0);
        c.is(3, v.read(1, 2), "serial in the root's first entry");
        c.is(224, v.read(2, 0), "the map's first byte");
        c.is(255, v.read(2, 4), "the map's last byte");
        c.fails(IndexOutOfBoundsException.class, () -> v.read(1, 4), "read behind the root");
        c.fails(IndexOutOfBoundsException.class, () -> v.read(2, 5), "read behind the map");
        LabelledVolume w = Volumes.withFiles(3);
        int[] root = {0, 1, 3, 3, 0, 2, 4, 5, 0, 3, 5, 6};
        for (int i = 0; i < root.length; i++) {
            c.is(root[i], w.read(1, i), "byte " + i + " of the root");
        }
        c.misses(w, 0, "with right hints");
    }

    private static void wrongInputs() {
        LabelledVolume v = Volumes.withFile(9);
        int[] noFile = {-1, 0, 4, 61, Integer.MIN_VALUE};
        for (int file : noFile) {
            c.fails(NoSuchElementException.class, () -> v.read(file, -1), "read of no file " + file);
        }
        int[] noByte = {-1, 9, 16, Integer.MAX_VALUE, Integer.MIN_VALUE};
        for (int i : noByte) {
            c.fails(IndexOutOfBoundsException.class, () -> v.read(3, i), "read of no byte " + i);
        }
        LabelledVolume w = Volumes.withFile(0);
        c.fails(IndexOutOfBoundsException.class, () -> w.read(3, 0), "read of an empty file");
        w.spoil(3, 3, 77);
        c.fails(IndexOutOfBoundsException.class, () -> w.read(3, -1), "read of byte -1");
        c.misses(w, 1, "as the last page is found first");
    }

    private static void lastHintIsChecked() {
        LabelledVolume v = Volumes.withFile(20);
        int[] wrong = {40, 255, 0, 39, 3, 5, 6};
        for (int k = 0; k < wrong.length; k++) {
            v.spoil(3, 3, wrong[k]);
            c.is(20, v.read(3, 19), "read with the hint " + wrong[k]);
            c.misses(v, k + 1, "of the hint " + wrong[k]);
        }
        v.ghost(7, 30);
        v.spoil(3, 3, 30);
        v.spoil(30, 0, 99);
        c.is(99, v.read(3, 16), "read of a hinted ghost of the last page");
        c.misses(v, wrong.length, "by a hint that the label agrees with");

        LabelledVolume w = Volumes.withFile(3);
        w.ghost(5, 30);
        Volumes.append(w, 3, 9);
        w.spoil(3, 3, 30);
        c.is(3, w.length(3), "length by an old ghost of page 1");
        c.fails(IndexOutOfBoundsException.class, () -> w.read(3, 3), "read behind that ghost");
    }

    private static void linksAreHints() {
        LabelledVolume v = Volumes.withFile(20);
        v.ghost(5, 30);
        v.ghost(6, 31);
        v.scratch(5);
        v.scratch(6);
        c.is(1, v.read(3, 0), "read of page 1 elsewhere");
        c.misses(v, 1, "of page 1");
        c.is(9, v.read(3, 8), "read of page 2 elsewhere");
        c.misses(v, 3, "of the pages 1 and 2");
        v.spoil(3, 3, 99);
        c.is(17, v.read(3, 16), "read with no good hint at all");
        c.misses(v, 6, "of the hint, and of the pages 1 and 2");
    }

    private static void lastPageIsNotGoneTo() {
        LabelledVolume v = Volumes.withFile(20);
        v.scratch(5);
        c.is(20, v.read(3, 19), "read of the hinted last page of a broken file");
        c.misses(v, 0, "as it is not gone to");
    }

    /** "IllegalStateException: it is broken." */
    private static void broken() {
        LabelledVolume v = Volumes.withFile(20);
        v.scratch(5);
        c.fails(IllegalStateException.class, () -> v.read(3, 8), "read of page 2 without page 1");
        c.misses(v, 1, "of page 1");
        v.spoil(3, 3, 99);
        c.fails(IllegalStateException.class, () -> v.read(3, 99), "broken goes before no such byte");
        c.misses(v, 3, "of the hint and page 1");
    }

    private static void withoutPower() {
        LabelledVolume v = Volumes.withFile(1);
        v.charge(0);
        c.is(1, v.read(3, 0), "read writes nothing");
        c.fails(UnsupportedOperationException.class, () -> v.write(3, 0, 0), "write");
        c.fails(UnsupportedOperationException.class, () -> v.read(99, 0), "read without power");
    }
}
