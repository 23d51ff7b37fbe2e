import java.util.NoSuchElementException;

/** Promise 5: write, with WRITING. */
public final class WriteTest {
    private static final Check c = new Check();

    public static void main(String[] args) {
        withinTheLength();
        eachByteInItsPage();
        lowestEightBits();
        behindAll();
        roomInTheLastPage();
        orderOfWriting();
        wrongInputs();
        fullVolume();
        broken();
        spoiltHintOfAGhostLeader();
        c.end();
    }

    /** "Byte i becomes the lowest eight bits of v": also when it is that already, a sector is written. */
    private static void withinTheLength() {
        LabelledVolume v = Volumes.withFile(20);
        int before = v.state(1);
        v.write(3, 9, -1);
        c.is(255, v.read(3, 9), "lowest eight bits of -1");
        v.write(3, 9, 0x12345);
        c.is(0x45, v.read(3, 9), "lowest eight bits");
        v.write(3, 9, 0x45);
        v.write(3, 19, 7);
        c.is(7, v.read(3, 19), "last byte");
        c.is(20, v.length(3), "length");
        c.written(v, before + 4, "one for each");
    }

    /** "A byte within the length: its page." */
    private static void eachByteInItsPage() {
        for (int i = 0; i < 20; i++) {
            LabelledVolume v = Volumes.withFile(20);
            int before = v.state(1);
            v.write(3, i, 200);
            for (int k = 0; k < 24; k++) {
                int due = k == i ? 200 : k < 20 ? k + 1 : 0;
                c.is(due, v.data(5 + k / 8, k % 8), "byte " + k + " when byte " + i + " was written");
            }
            c.written(v, before + 1, "for byte " + i);
            c.is(20, v.length(3), "length when byte " + i + " was written");
        }
    }

    /** "Byte i becomes the lowest eight bits of v": within the length, in the last page, and in a new one. */
    private static void lowestEightBits() {
        int[][] values = {{0, 0}, {255, 255}, {256, 0}, {257, 1}, {-1, 255}, {-256, 0}, {-255, 1}, {0x1280, 0x80},
            {Integer.MAX_VALUE, 255}, {Integer.MIN_VALUE, 0}};
        for (int[] value : values) {
            LabelledVolume v = Volumes.withFile(8);
            v.write(3, 3, value[0]);
            c.is(value[1], v.data(5, 3), "data when " + value[0] + " was written within the length");
            c.is(value[1], v.read(3, 3), "read of it");
            v.write(3, 8, value[0]);
            c.is(value[1], v.data(6, 0), "data when " + value[0] + " was written to a new page");
            c.is(value[1], v.read(3, 8), "read of it");
            v.write(3, 9, value[0]);
            c.is(value[1], v.data(6, 1), "data when " + value[0] + " was written behind all");
            c.is(value[1], v.read(3, 9), "read of it");
            c.data(v, 5, 1, 2, 3, value[1], 5, 6, 7, 8);
        }
    }

    /** "the last page, if it is not the leader and has room; else a sector is taken". */
    private static void roomInTheLastPage() {
        for (int length = 0; length <= 17; length++) {
            LabelledVolume v = Volumes.withFile(length);
            int free = v.state(2);
            v.write(3, length, 77);
            int taken = length % 8 == 0 ? 1 : 0;
            c.is(free - taken, v.state(2), "free sectors with one more byte behind " + length);
            int sector = 5 + length / 8;
            c.label(v, sector, 3, length / 8 + 1, length % 8 + 1, -1, length < 8 ? 3 : sector - 1);
            c.is(77, v.data(sector, length % 8), "the byte behind " + length);
            c.is(sector, v.data(3, 3), "hint of the last page behind " + length);
            c.is(length + 1, v.length(3), "length");
            for (int i = length % 8 + 1; i < 8; i++) {
                c.is(0, v.data(sector, i), "other data behind " + length);
            }
        }
    }

    /**
     * "if i is the length it comes behind all", "it becomes the next page (USED 1, BEFORE the last one, other data
     * 0)".
     */
    private static void behindAll() {
        LabelledVolume v = Volumes.withFile(0);
        v.write(3, 0, 300);
        c.label(v, 5, 3, 1, 1, -1, 3);
        c.data(v, 5, 44, 0, 0, 0, 0, 0, 0, 0);
        c.label(v, 3, 3, 0, 8, 5, -1);
        c.data(v, 3, 0, 1, 0, 5);
        c.data(v, 2, 192);
        c.written(v, 7, "new page, leader, map");
        v.write(3, 1, 9);
        c.label(v, 5, 3, 1, 2, -1, 3);
        c.data(v, 5, 44, 9, 0);
        c.written(v, 8, "the last page alone");
        Volumes.append(v, 3, 6);
        c.is(8, v.label(5, 2), "USED of a page that is full");
        v.write(3, 8, 1);
        c.written(v, 18, "new page, last page, leader, map");
        c.label(v, 5, 3, 1, 8, 6, 3);
        c.label(v, 6, 3, 2, 1, -1, 5);
        c.is(6, v.data(3, 3), "hint of the last page");
        c.is(9, v.length(3), "length");
        c.misses(v, 0, "with right hints");
    }

    /**
     * "then the last page is written with its NEXT, then the leader with the hint of the last page (both at once, if
     * that is the leader)", and the map at the end.
     */
    private static void orderOfWriting() {
        for (int charge = 0; charge <= 4; charge++) {
            LabelledVolume v = Volumes.withFile(8);
            v.charge(charge);
            if (charge < 4) {
                c.fails(UnsupportedOperationException.class, () -> v.write(3, 8, 1), "write, charge " + charge);
            } else {
                v.write(3, 8, 1);
            }
            c.is(charge > 0 ? 3 : 0, v.label(6, 0), "serial of the new page, charge " + charge);
            c.is(charge > 1 ? 6 : -1, v.label(5, 3), "NEXT of the last page, charge " + charge);
            c.is(charge > 2 ? 6 : 5, v.data(3, 3), "hint of the leader, charge " + charge);
            c.is(charge > 3 ? 128 : 192, v.data(2, 0), "map, charge " + charge);
            c.is(charge > 3 ? 1 : 0, v.state(4), "power, charge " + charge);
        }
        LabelledVolume w = Volumes.withFile(0);
        w.charge(1);
        c.fails(UnsupportedOperationException.class, () -> w.write(3, 0, 1), "first write, charge 1");
        c.is(3, w.label(5, 0), "serial of the new page");
        c.label(w, 3, 3, 0, 8, -1, -1);
        c.is(3, w.data(3, 3), "hint of the leader");
    }

    /** "IndexOutOfBoundsException: i is below 0, or above the length.", and the other exceptions. */
    private static void wrongInputs() {
        LabelledVolume v = Volumes.withFile(9);
        v.create(1, 2, true);
        String before = Volumes.picture(v);
        int[] noFile = {-1, 0, 5, 61};
        for (int file : noFile) {
            c.fails(NoSuchElementException.class, () -> v.write(file, 0, 0), "write to no file " + file);
        }
        int[] noPlainFile = {1, 2, 4};
        for (int file : noPlainFile) {
            c.fails(IllegalArgumentException.class, () -> v.write(file, -1, 0), "write to file " + file);
        }
        int[] noByte = {-1, 10, 11, Integer.MAX_VALUE, Integer.MIN_VALUE};
        for (int i : noByte) {
            c.fails(IndexOutOfBoundsException.class, () -> v.write(3, i, 0), "write to byte " + i);
        }
        c.is(true, before.equals(Volumes.picture(v)), "nothing is changed by what throws");
        v.spoil(0, 3, 99);
        c.fails(IllegalArgumentException.class, () -> v.write(1, 0, 0), "write to the root");
        c.misses(v, 0, "as the last page is not found");
        v.spoil(3, 3, 99);
        c.fails(IndexOutOfBoundsException.class, () -> v.write(3, 10, 0), "write beyond the length");
        c.misses(v, 1, "of the hint");
        c.fails(UnsupportedOperationException.class, () -> {
            v.charge(0);
            v.write(3, 0, 0);
        }, "write with charge 0");
        c.fails(UnsupportedOperationException.class, () -> v.write(99, 0, 0), "write without power");
    }

    /** "IllegalStateException: .. the volume is full"; what needs no sector is done all the same. */
    private static void fullVolume() {
        LabelledVolume v = Volumes.full();
        int length = v.length(3);
        c.is(280, length, "length of a file that has all sectors");
        int written = v.state(1);
        c.fails(IllegalStateException.class, () -> v.write(3, length, 1), "write behind all on a full volume");
        c.written(v, written, "on a full volume");
        c.is(length, v.length(3), "length");
        v.write(3, length - 1, 5);
        c.is(5, v.read(3, length - 1), "a byte within the length");
        c.is(1, v.read(3, 256), "byte 256");
        v.shorten(3, length - 1);
        v.write(3, length - 1, 6);
        c.is(6, v.read(3, length - 1), "a byte where there is room");
    }

    /** "IllegalStateException: it is broken": where the page is gone to, and where the last page is. */
    private static void broken() {
        LabelledVolume v = Volumes.withFile(20);
        v.scratch(6);
        c.fails(IllegalStateException.class, () -> v.write(3, 8, 1), "write to a page that is not there");
        v.write(3, 0, 7);
        c.is(7, v.read(3, 0), "write ahead of the broken place");
        v.write(3, 20, 8);
        c.is(8, v.read(3, 20), "write to the hinted last page");
        v.spoil(3, 3, 99);
        c.fails(IllegalStateException.class, () -> v.write(3, -1, 1), "broken goes before a wrong byte");
    }

    /**
     * "(both at once, if that is the leader)": a ghost of the leader, which a spoilt hint calls last, is another
     * sector.
     */
    private static void spoiltHintOfAGhostLeader() {
        LabelledVolume v = Volumes.withFile(0);
        v.ghost(3, 30);
        v.spoil(3, 3, 30);
        v.write(3, 0, 1);
        c.label(v, 5, 3, 1, 1, -1, 30);
        c.label(v, 30, 3, 0, 8, 5, -1);
        c.is(3, v.data(30, 3), "hint of the ghost, which is not the leader");
        c.label(v, 3, 3, 0, 8, -1, -1);
        c.is(5, v.data(3, 3), "hint of the leader");
        c.written(v, 8, "new page, ghost, leader, map");
    }
}
