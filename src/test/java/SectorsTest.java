import java.util.NoSuchElementException;

/** The first two paragraphs of the Terms: sectors, files, names, KINDS, entries, holes, the map's bits. */
public final class SectorsTest {
    private static final Check c = new Check();

    public static void main(String[] args) {
        fortySectors();
        lastSectorIsUsed();
        eightBytes();
        freeIsAllZero();
        unreadableIsNeverWritten();
        filesOneToSixty();
        freeAndUnreadableSectorsAreNoFiles();
        leaderOfANewFile();
        nameHasTheHigherByteFirst();
        onlyKindOneIsADirectory();
        rootIsADirectoryWhateverItsKind();
        mapIsNoDirectoryWhateverItsKind();
        lastPageHasOneToEight();
        entriesInAPage();
        serialZeroIsAHole();
        bitsOfTheMapWhenTaking();
        bitsOfTheMapWhenFreeing();
        c.end();
    }

    /** "There are 40 SECTORS, 0 .. 39." */
    private static void fortySectors() {
        LabelledVolume v = new LabelledVolume();
        c.is(1, v.label(0, 0), "serial of sector 0");
        c.is(0, v.label(39, 0), "serial of sector 39");
        c.is(true, v.ghost(0, 39), "ghost onto sector 39");
        c.is(1, v.label(39, 0), "serial of the ghost in sector 39");
        c.is(true, v.spoil(39, 0, 5), "spoil of sector 39");
        c.is(5, v.data(39, 0), "data of sector 39");
        c.is(true, v.ghost(39, 38), "ghost from sector 39");
        c.is(true, v.spoil(0, 7, 6), "spoil of sector 0");
        int[] none = {-1, 40, 41, 255, Integer.MIN_VALUE, Integer.MAX_VALUE};
        for (int sector : none) {
            c.is(-1, v.label(sector, 0), "label of sector " + sector);
            c.is(-1, v.label(sector, 3), "NEXT of sector " + sector);
            c.is(-1, v.data(sector, 0), "data of sector " + sector);
            c.is(false, v.spoil(sector, 0, 1), "spoil of sector " + sector);
            c.is(false, v.scratch(sector), "scratch of sector " + sector);
            c.is(false, v.ghost(0, sector), "ghost onto sector " + sector);
            c.is(false, v.ghost(sector, 30), "ghost from sector " + sector);
        }
        c.is(0, v.label(30, 0), "serial of the sector that no ghost came to");
        c.is(true, v.scratch(39), "scratch of sector 39");
        c.is(true, v.scratch(0), "scratch of sector 0");
        c.is(2, v.state(3), "unreadable sectors");
    }

    /** The same: the last sector is taken when it is the only one left. */
    private static void lastSectorIsUsed() {
        LabelledVolume v = Volumes.withFile(0);
        for (int sector = 5; sector < 39; sector++) {
            v.scratch(sector);
        }
        v.write(3, 0, 9);
        c.label(v, 39, 3, 1, 1, -1, 3);
        c.is(39, v.data(3, 3), "hint of the last page");
        c.is(9, v.read(3, 0), "byte in sector 39");
        c.misses(v, 34, "of the bits of unreadable sectors");
        c.data(v, 2, 0, 0, 0, 0, 0);
        c.is(0, v.state(2), "free sectors");
        v.shorten(3, 0);
        c.data(v, 2, 0, 0, 0, 0, 128);
    }

    /** "Each has 8 BYTES of data and a LABEL". */
    private static void eightBytes() {
        LabelledVolume v = Volumes.withFile(8);
        c.data(v, 5, 1, 2, 3, 4, 5, 6, 7, 8);
        c.is(true, v.spoil(5, 0, 10), "spoil of byte 0");
        c.is(true, v.spoil(5, 7, 80), "spoil of byte 7");
        int[] none = {-1, 8, 9, 13, Integer.MIN_VALUE, Integer.MAX_VALUE};
        for (int i : none) {
            c.is(false, v.spoil(5, i, 99), "spoil of byte " + i);
            c.is(-1, v.data(5, i), "data of byte " + i);
        }
        c.data(v, 5, 10, 2, 3, 4, 5, 6, 7, 80);
        c.label(v, 5, 3, 1, 8, -1, 3);
        c.label(v, 4, 1, 1, 4, -1, 0);
        c.label(v, 6, 0, 0, 0, -1, -1);
    }

    /** "It is FREE if the serial is 0 (then all in the label and the data is 0, the links NONE)." */
    private static void freeIsAllZero() {
        LabelledVolume shortened = Volumes.withFile(24);
        shortened.shorten(3, 8);
        isAllZero(shortened, 6);
        isAllZero(shortened, 7);

        LabelledVolume removed = Volumes.withFile(16);
        removed.remove(1, 1);
        isAllZero(removed, 3);
        isAllZero(removed, 5);
        isAllZero(removed, 6);

        LabelledVolume scavenged = Volumes.withFile(16);
        scavenged.ghost(5, 30);
        scavenged.scavenge();
        isAllZero(scavenged, 30);
    }

    private static void isAllZero(LabelledVolume v, int sector) {
        c.label(v, sector, 0, 0, 0, -1, -1);
        c.data(v, sector, 0, 0, 0, 0, 0, 0, 0, 0);
    }

    /** "A sector may be UNREADABLE: its label says nothing, and it is never written." */
    private static void unreadableIsNeverWritten() {
        LabelledVolume v = Volumes.withFile(16);
        v.scratch(5);
        v.scratch(7);
        v.shorten(3, 9);
        v.create(1, 2, false);
        v.scavenge();
        v.write(4, 0, 1);
        int[] unreadable = {5, 7};
        for (int sector : unreadable) {
            c.label(v, sector, -1, -1, -1, -1, -1);
            c.data(v, sector, -1, -1, -1, -1, -1, -1, -1, -1);
            c.is(0, v.data(2, 0) >> sector & 1, "the map's bit of sector " + sector);
        }
        c.is(2, v.state(3), "unreadable sectors");
        int free = v.state(2);
        v.scratch(39);
        c.is(free - 1, v.state(2), "free sectors, as an unreadable one is not");
    }

    /** "FILE s (1 .. 60) has the sectors with the serial s." */
    private static void filesOneToSixty() {
        int[] none = {0, -1, -2, 61, 62, 64, 65, 255, Integer.MIN_VALUE, Integer.MAX_VALUE};
        LabelledVolume v = Volumes.withFile(1);
        for (int file : none) {
            isNoFile(v, file);
        }
        int[] notMade = {4, 59, 60};
        for (int file : notMade) {
            isNoFile(v, file);
        }
        c.misses(v, 0, "as nothing is looked at for no file");
        c.is(4, v.length(1), "length of file 1");
        c.is(1, v.length(3), "length of file 3");
    }

    private static void isNoFile(LabelledVolume v, int file) {
        String of = " of file " + file;
        c.fails(NoSuchElementException.class, () -> v.create(file, 1, false), "create" + of);
        c.fails(NoSuchElementException.class, () -> v.open(file, 1), "open" + of);
        c.fails(NoSuchElementException.class, () -> v.read(file, 0), "read" + of);
        c.fails(NoSuchElementException.class, () -> v.write(file, 0, 1), "write" + of);
        c.fails(NoSuchElementException.class, () -> v.shorten(file, 0), "shorten" + of);
        c.fails(NoSuchElementException.class, () -> v.remove(file, 1), "remove" + of);
        c.fails(NoSuchElementException.class, () -> v.length(file), "length" + of);
        c.fails(NoSuchElementException.class, () -> v.entry(file, 0, 0), "entry" + of);
    }

    /** The same: the 0 of a free label, and what label() answers for an unreadable sector, are no serials. */
    private static void freeAndUnreadableSectorsAreNoFiles() {
        LabelledVolume v = Volumes.withFile(1);
        v.scratch(5);
        v.scratch(39);
        isNoFile(v, 0);
        isNoFile(v, -1);
        c.is(3, v.scavenge(), "files, as free and unreadable sectors are none");
    }

    /** "Page 0 is its LEADER (USED 8), whose data has its NAME .., its KIND .., and the sector of its last page". */
    private static void leaderOfANewFile() {
        LabelledVolume v = new LabelledVolume();
        v.create(1, 7, false);
        v.create(1, 8, true);
        c.label(v, 3, 3, 0, 8, -1, -1);
        c.data(v, 3, 0, 7, 0, 3, 0, 0, 0, 0);
        c.label(v, 5, 4, 0, 8, -1, -1);
        c.data(v, 5, 0, 8, 1, 5, 0, 0, 0, 0);
    }

    /** "its NAME (bytes 0 and 1, the higher first)". */
    private static void nameHasTheHigherByteFirst() {
        int[][] names = {{1, 0, 1}, {255, 0, 255}, {256, 1, 0}, {257, 1, 1}, {511, 1, 255}, {9984, 39, 0},
            {9999, 39, 15}};
        for (int[] name : names) {
            LabelledVolume v = new LabelledVolume();
            v.create(1, name[0], false);
            c.data(v, 3, name[1], name[2], 0, 3);
            c.data(v, 4, name[1], name[2], 3, 3);
            c.is(name[0], v.entry(1, 0, 0), "name in the entry");
            c.is(3, v.open(1, name[0]), "open of name " + name[0]);
        }
        LabelledVolume w = Volumes.withFile(0);
        w.spoil(4, 0, 255);
        w.spoil(4, 1, 254);
        c.is(65534, w.entry(1, 0, 0), "the highest bits are no sign");
        c.is(3, w.open(1, 65534), "open of a name above 9999");
        int[] others = {-2, 254, 65534 - 65536 * 2, 65534 + 65536, 65279};
        for (int name : others) {
            c.fails(NoSuchElementException.class, () -> w.open(1, name), "open of name " + name);
        }
    }

    /** "its KIND (byte 2: 1 for a directory)", "a file from 3 on whose KIND is 1". */
    private static void onlyKindOneIsADirectory() {
        int[] kinds = {0, 2, 3, 128, 129, 255, 256};
        for (int kind : kinds) {
            LabelledVolume v = Volumes.withFile(1);
            v.spoil(3, 2, kind);
            c.fails(IllegalArgumentException.class, () -> v.create(3, 1, false), "create, KIND " + kind);
            c.fails(IllegalArgumentException.class, () -> v.open(3, 1), "open, KIND " + kind);
            c.fails(IllegalArgumentException.class, () -> v.remove(3, 1), "remove, KIND " + kind);
            c.fails(IllegalArgumentException.class, () -> v.entry(3, 0, 0), "entry, KIND " + kind);
            v.write(3, 0, 5);
            c.is(5, v.read(3, 0), "read, KIND " + kind);
            v.shorten(3, 0);
            c.is(0, v.length(3), "length, KIND " + kind);
        }
        LabelledVolume d = Volumes.withFile(1);
        d.spoil(3, 2, 257);
        c.fails(IllegalArgumentException.class, () -> d.write(3, 0, 5), "write, KIND 1");
        c.fails(IllegalArgumentException.class, () -> d.shorten(3, 0), "shorten, KIND 1");
        c.is(4, d.create(3, 1, false), "create, KIND 1");
        c.is(4, d.open(3, 1), "open, KIND 1");
        c.is(1, d.read(3, 0), "read, KIND 1");
    }

    /** "A DIRECTORY (file 1, and ..". */
    private static void rootIsADirectoryWhateverItsKind() {
        int[] kinds = {0, 2, 255};
        for (int kind : kinds) {
            LabelledVolume v = new LabelledVolume();
            v.spoil(0, 2, kind);
            c.is(3, v.create(1, 1, false), "create in a root of KIND " + kind);
            c.is(3, v.open(1, 1), "open in it");
            c.is(3, v.entry(1, 0, 1), "entry of it");
            c.fails(IllegalArgumentException.class, () -> v.write(1, 0, 0), "write to it");
            c.fails(IllegalArgumentException.class, () -> v.shorten(1, 0), "shorten it");
            c.is(1, v.remove(1, 1), "remove from it");
        }
    }

    /** ".. and a file from 3 on": not file 2. */
    private static void mapIsNoDirectoryWhateverItsKind() {
        LabelledVolume v = new LabelledVolume();
        v.spoil(1, 2, 1);
        c.fails(IllegalArgumentException.class, () -> v.create(2, 1, false), "create in a map of KIND 1");
        c.fails(IllegalArgumentException.class, () -> v.open(2, 1), "open in it");
        c.fails(IllegalArgumentException.class, () -> v.remove(2, 1), "remove from it");
        c.fails(IllegalArgumentException.class, () -> v.entry(2, 0, 0), "entry of it");
        c.fails(IllegalArgumentException.class, () -> v.write(2, 0, 0), "write to it");
        c.fails(IllegalArgumentException.class, () -> v.shorten(2, 0), "shorten it");
        c.is(248, v.read(2, 0), "read of it");
        c.is(5, v.length(2), "length of it");
    }

    /** "each with 8 USED, but the last one with 1 .. 8". */
    private static void lastPageHasOneToEight() {
        LabelledVolume v = Volumes.withFile(0);
        for (int n = 1; n <= 17; n++) {
            v.write(3, n - 1, n);
            c.is(Math.min(n, 8), v.label(5, 2), "USED of page 1 of " + n + " bytes");
            c.is(Math.max(0, Math.min(n - 8, 8)), v.label(6, 2), "USED of page 2 of " + n + " bytes");
            c.is(Math.max(0, n - 16), v.label(7, 2), "USED of page 3 of " + n + " bytes");
        }
        for (int n = 16; n >= 1; n--) {
            v.shorten(3, n);
            c.is(Math.min(n, 8), v.label(5, 2), "USED of page 1 behind shorten to " + n);
            c.is(Math.max(0, n - 8), v.label(6, 2), "USED of page 2 behind shorten to " + n);
        }
    }

    /** "ENTRIES of four bytes, two in a page (USED / 4, rounded down)". */
    private static void entriesInAPage() {
        for (int used = 0; used <= 8; used++) {
            LabelledVolume v = Volumes.withFile(used);
            v.spoil(3, 2, 1);
            for (int k = 0; k < 3; k++) {
                int entry = k;
                if (k < used / 4) {
                    c.is(4 * k + 3, v.entry(3, k, 1), "serial in entry " + k + " of " + used + " bytes");
                } else {
                    c.fails(NoSuchElementException.class, () -> v.entry(3, entry, 1),
                            "entry " + k + " of " + used + " bytes");
                }
            }
        }
        LabelledVolume w = Volumes.withFile(11);
        w.spoil(3, 2, 1);
        c.is(7, w.entry(3, 1, 1), "serial in the last entry");
        c.fails(NoSuchElementException.class, () -> w.entry(3, 2, 1), "three bytes in a second page");
        c.fails(NoSuchElementException.class, () -> w.open(3, 9 * 256 + 10), "open of what is no whole entry");
    }

    /** "one with the serial 0 is a HOLE", whatever else it says. */
    private static void serialZeroIsAHole() {
        LabelledVolume v = Volumes.withFiles(2);
        v.spoil(4, 2, 0);
        c.fails(NoSuchElementException.class, () -> v.open(1, 1), "open of a hole's name");
        c.fails(NoSuchElementException.class, () -> v.remove(1, 1), "remove of a hole's name");
        c.is(1, v.entry(1, 0, 0), "name of the hole");
        c.is(5, v.create(1, 1, false), "create of a hole's name");
        c.data(v, 4, 0, 1, 5, 6, 0, 2, 4, 5);

        LabelledVolume w = new LabelledVolume();
        w.create(1, 1, true);
        w.create(3, 1, false);
        w.spoil(6, 2, 0);
        c.is(2, w.remove(1, 1), "remove of a directory whose entry is a hole");

        LabelledVolume x = new LabelledVolume();
        x.create(1, 1, true);
        x.create(3, 1, false);
        x.spoil(6, 0, 0);
        x.spoil(6, 1, 0);
        x.spoil(6, 3, 0);
        c.fails(IllegalStateException.class, () -> x.remove(1, 1), "an entry with nothing but a serial is no hole");
        c.is(4, x.open(3, 0), "open of name 0, which such an entry has");
    }

    /** "bit b (1 << b) of byte k hints that sector 8 * k + b is free": the one that is hinted is taken. */
    private static void bitsOfTheMapWhenTaking() {
        for (int sector = 5; sector < 40; sector++) {
            LabelledVolume v = Volumes.withFile(0);
            for (int k = 0; k < 5; k++) {
                v.spoil(2, k, k == sector / 8 ? 1 << sector % 8 : 0);
            }
            v.write(3, 0, 1);
            c.label(v, sector, 3, 1, 1, -1, 3);
            c.data(v, 2, 0, 0, 0, 0, 0);
            c.misses(v, 0, "with a right bit for sector " + sector);
        }
    }

    /** The same: the bit of the one that becomes free is set, and no other. */
    private static void bitsOfTheMapWhenFreeing() {
        for (int sector = 6; sector < 40; sector++) {
            LabelledVolume v = Volumes.withFile(1);
            v.ghost(5, sector);
            v.spoil(3, 3, sector);
            for (int k = 0; k < 5; k++) {
                v.spoil(2, k, 0);
            }
            v.shorten(3, 0);
            for (int k = 0; k < 5; k++) {
                c.is(k == sector / 8 ? 1 << sector % 8 : 0, v.data(2, k), "byte " + k + " for sector " + sector);
            }
        }
    }
}
