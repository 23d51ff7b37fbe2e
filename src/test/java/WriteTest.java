import java.util.NoSuchElementException;

/** Promise 5: write, with WRITING. */
public final class WriteTest {
    private static final Check c = new Check();

    public static void main(String[] args) {
        withinTheLength();
        behindAll();
        orderOfWriting();
        wrongInputs();
        fullVolume();
        broken();
        spoiltHintOfAGhostLeader();
        c.end();
    }

    private static void withinTheLength() {
        LabelledVolume v = Volumes.withFile(20);
        int before = v.state(1);
        v.write(3, 9, -1);
        c.is(255, v.read(3, 9), "lowest eight bits of -1");
        v.write(3, 9, 0x12345);
        c.is(0x45, v.read(3, 9), "lowest eight bits");
        v.write(3, 9, 0x45);
        v.write(3, 19, 7);
        c.is(7, v.read(3, 19), "last byte");
        c.is(20, v.length(3), "length");
        c.written(v, before + 4, "one for each");
    }

    private static void behindAll() {
        LabelledVolume v = Volumes.withFile(0);
        v.write(3, 0, 300);
        c.label(v, 5, 3, 1, 1, -1, 3);
        c.data(v, 5, 44, 0, 0, 0, 0, 0, 0, 0);
        c.label(v, 3, 3, 0, 8, 5, -1);
        c.data(v, 3, 0, 1, 0, 5);
        c.data(v, 2, 192);
        c.written(v, 7, "new page, leader, map");
        v.write(3, 1, 9);
        c.label(v, 5, 3, 1, 2, -1, 3);
        c.data(v, 5, 44, 9, 0);
        c.written(v, 8, "the last page alone");
        Volumes.append(v, 3, 6);
        c.is(8, v.label(5, 2), "USED of a page that is full");
        v.write(3, 8, 1);
        c.written(v, 18, "new page, last page, leader, map");
        c.label(v, 5, 3, 1, 8, 6, 3);
        c.label(v, 6, 3, 2, 1, -1, 5);
        c.is(6, v.data(3, 3), "hint of the last page");
        c.is(9, v.length(3), "length");
        c.misses(v, 0, "with right hints");
    }

    /** New page, last page, leader, map. */
    private static void orderOfWriting() {
        for (int charge = 0; charge <= 4; charge++) {
            LabelledVolume v = Volumes.withFile(8);
            v.charge(charge);
            if (charge < 4) {
                c.fails(UnsupportedOperationException.class, () -> v.write(3, 8, 1), "write, charge " + charge);
            } else {
                v.write(3, 8, 1);
            }
            c.is(charge > 0 ? 3 : 0, v.label(6, 0), "serial of the new page, charge " + charge);
            c.is(charge > 1 ? 6 : -1, v.label(5, 3), "NEXT of the last page, charge " + charge);
            c.is(charge > 2 ? 6 : 5, v.data(3, 3), "hint of the leader, charge " + charge);
            c.is(charge > 3 ? 128 : 192, v.data(2, 0), "map, charge " + charge);
            c.is(charge > 3 ? 1 : 0, v.state(4), "power, charge " + charge);
        }
        LabelledVolume w = Volumes.withFile(0);
        w.charge(1);
        c.fails(UnsupportedOperationException.class, () -> w.write(3, 0, 1), "first write, charge 1");
        c.is(3, w.label(5, 0), "serial of the new page");
        c.label(w, 3, 3, 0, 8, -1, -1);
        c.is(3, w.data(3, 3), "hint of the leader");
    }

    private static void wrongInputs() {
        LabelledVolume v = Volumes.withFile(9);
        v.create(1, 2, true);
        String before = Volumes.picture(v);
        int[] noFile = {-1, 0, 5, 61};
        for (int file : noFile) {
            c.fails(NoSuchElementException.class, () -> v.write(file, 0, 0), "write to no file " + file);
        }
        int[] noPlainFile = {1, 2, 4};
        for (int file : noPlainFile) {
            c.fails(IllegalArgumentException.class, () -> v.write(file, -1, 0), "write to file " + file);
        }
        int[] noByte = {-1, 10, 11, Integer.MAX_VALUE, Integer.MIN_VALUE};
        for (int i : noByte) {
            c.fails(IndexOutOfBoundsException.class, () -> v.write(3, i, 0), "write to byte " + i);
        }
        c.is(true, before.equals(Volumes.picture(v)), "nothing is changed by what throws");
        v.spoil(0, 3, 99);
        c.fails(IllegalArgumentException.class, () -> v.write(1, 0, 0), "write to the root");
        c.misses(v, 0, "as the last page is not found");
        v.spoil(3, 3, 99);
        c.fails(IndexOutOfBoundsException.class, () -> v.write(3, 10, 0), "write beyond the length");
        c.misses(v, 1, "of the hint");
        c.fails(UnsupportedOperationException.class, () -> {
            v.charge(0);
            v.write(3, 0, 0);
        }, "write with charge 0");
        c.fails(UnsupportedOperationException.class, () -> v.write(99, 0, 0), "write without power");
    }

    private static void fullVolume() {
        LabelledVolume v = Volumes.full();
        int length = v.length(3);
        c.is(280, length, "length of a file that has all sectors");
        String before = Volumes.picture(v);
        c.fails(IllegalStateException.class, () -> v.write(3, length, 1), "write behind all on a full volume");
        c.is(true, before.equals(Volumes.picture(v)), "a full volume is left as it was");
        v.write(3, length - 1, 5);
        c.is(5, v.read(3, length - 1), "a byte within the length");
        c.is(1, v.read(3, 256), "byte 256");
    }

    private static void broken() {
        LabelledVolume v = Volumes.withFile(20);
        v.scratch(6);
        c.fails(IllegalStateException.class, () -> v.write(3, 8, 1), "write to a page that is not there");
        v.write(3, 0, 7);
        c.is(7, v.read(3, 0), "write ahead of the broken place");
        v.write(3, 20, 8);
        c.is(8, v.read(3, 20), "write to the hinted last page");
        v.spoil(3, 3, 99);
        c.fails(IllegalStateException.class, () -> v.write(3, -1, 1), "broken goes before a wrong byte");
    }

    private static void spoiltHintOfAGhostLeader() {
        LabelledVolume v = Volumes.withFile(0);
        v.ghost(3, 30);
        v.spoil(3, 3, 30);
        v.write(3, 0, 1);
        c.label(v, 5, 3, 1, 1, -1, 30);
        c.label(v, 30, 3, 0, 8, 5, -1);
        c.is(3, v.data(30, 3), "hint of the ghost, which is not the leader");
        c.label(v, 3, 3, 0, 8, -1, -1);
        c.is(5, v.data(3, 3), "hint of the leader");
        c.written(v, 8, "new page, ghost, leader, map");
    }
}
