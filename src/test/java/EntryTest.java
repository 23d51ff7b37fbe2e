import java.util.NoSuchElementException;

/** Promise 9: entry. */
public final class EntryTest {
    private static final Check c = new Check();

    public static void main(String[] args) {
        ordinary();
        wrongInputs();
        brokenOnlyWhereItIsGoneThrough();
        mostEntries();
        lastEntryIsTheFirstHole();
        c.end();
    }

    private static LabelledVolume withThree() {
        LabelledVolume v = new LabelledVolume();
        v.create(1, 300, false);
        v.create(1, 2, true);
        v.create(1, 9999, false);
        return v;
    }

    private static void is(LabelledVolume v, int k, int name, int serial, int sector) {
        c.is(name, v.entry(1, k, 0), "name of entry " + k);
        c.is(serial, v.entry(1, k, 1), "serial of entry " + k);
        c.is(sector, v.entry(1, k, 2), "sector of entry " + k);
    }

    /** "Of entry k (from 0, holes among them) of a directory: the name (what 0), the serial (1), the sector (2)." */
    private static void ordinary() {
        LabelledVolume v = withThree();
        is(v, 0, 300, 3, 3);
        is(v, 1, 2, 4, 5);
        is(v, 2, 9999, 5, 6);
        v.remove(1, 2);
        is(v, 1, 0, 0, 0);
        is(v, 2, 9999, 5, 6);
        v.spoil(4, 3, 255);
        is(v, 0, 300, 3, 255);
        c.misses(v, 0, "as the sector is only told");
    }

    /** "it is no directory, or what is not 0 .. 2", "it has no such entry". */
    private static void wrongInputs() {
        LabelledVolume v = withThree();
        int[] noFile = {-1, 0, 6, 61};
        for (int dir : noFile) {
            c.fails(NoSuchElementException.class, () -> v.entry(dir, 0, 9), "entry of no file " + dir);
        }
        c.fails(IllegalArgumentException.class, () -> v.entry(2, -1, 0), "entry of the map");
        c.fails(IllegalArgumentException.class, () -> v.entry(3, -1, 0), "entry of a file");
        c.fails(IllegalArgumentException.class, () -> v.entry(1, -1, 3), "what 3");
        c.fails(IllegalArgumentException.class, () -> v.entry(1, 0, -1), "what -1");
        c.fails(NoSuchElementException.class, () -> v.entry(1, 3, 0), "entry 3 of three");
        c.fails(NoSuchElementException.class, () -> v.entry(1, Integer.MAX_VALUE, 0), "entry far away");
        c.fails(NoSuchElementException.class, () -> v.entry(1, -1, 0), "entry -1");
        c.fails(NoSuchElementException.class, () -> v.entry(4, 0, 0), "entry of an empty directory");
        v.charge(0);
        c.is(300, v.entry(1, 0, 0), "entry writes nothing");
        c.fails(UnsupportedOperationException.class, () -> v.write(3, 0, 0), "write with charge 0");
        c.fails(UnsupportedOperationException.class, () -> v.entry(99, 0, 9), "entry without power");
    }

    /** "it is broken (gone through up to this one)". */
    private static void brokenOnlyWhereItIsGoneThrough() {
        LabelledVolume v = withThree();
        v.scratch(7);
        is(v, 1, 2, 4, 5);
        c.fails(NoSuchElementException.class, () -> v.entry(1, -1, 0), "entry -1 of a broken directory");
        c.misses(v, 0, "ahead of the broken place");
        c.fails(IllegalStateException.class, () -> v.entry(1, 2, 0), "entry behind the broken place");
        c.misses(v, 1, "of the page that is not there");
    }

    /** A directory has as many entries as a file of all sectors has room for: two in each of 35 pages. */
    private static void mostEntries() {
        LabelledVolume v = Volumes.full();
        v.spoil(3, 2, 1);
        c.is(3, v.entry(3, 0, 1), "serial in entry 0");
        c.is(163, v.entry(3, 40, 1), "serial in entry 40");
        c.is(279 & 255, v.entry(3, 69, 1), "serial in entry 69");
        c.fails(NoSuchElementException.class, () -> v.entry(3, 70, 1), "entry 70 of 70");
        c.fails(NoSuchElementException.class, () -> v.open(3, 9999), "open of none of them");
        v.scavenge();
        for (int sector = 5; sector < 40; sector++) {
            c.is(0, v.data(sector, 2) + v.data(sector, 6), "serials in sector " + sector + ", of no files");
        }
        c.is(280, v.length(3), "length");
    }

    /** The same: the last of them is the only hole. */
    private static void lastEntryIsTheFirstHole() {
        LabelledVolume v = Volumes.withFile(272);
        v.spoil(3, 2, 1);
        v.spoil(38, 6, 0);
        c.is(0, v.entry(3, 67, 1), "serial in entry 67");
        c.is(4, v.create(3, 9999, false), "create with the last free sector");
        c.data(v, 38, 9, 10, 11, 12, 39, 15, 4, 39);
        c.is(4, v.open(3, 9999), "open of the last entry");
        c.is(0, v.state(2), "free sectors");
    }
}
