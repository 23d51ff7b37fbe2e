import java.util.NoSuchElementException;
import java.util.function.BiConsumer;

/**
 * Calls that are refused: of several reasons the first one that the document names, and "A call that throws
 * something else has changed nothing but the misses, and what is remembered." The volumes here give several
 * reasons at once; how many misses there are tells how far a call went.
 */
public final class RefusedTest {
    private static final Check c = new Check();
    private static final Class<NoSuchElementException> NONE_SUCH = NoSuchElementException.class;
    private static final Class<IllegalArgumentException> ARGUMENT = IllegalArgumentException.class;
    private static final Class<IllegalStateException> STATE = IllegalStateException.class;
    private static final Class<IndexOutOfBoundsException> INDEX = IndexOutOfBoundsException.class;
    private static final Class<UnsupportedOperationException> POWER = UnsupportedOperationException.class;

    public static void main(String[] args) {
        createOrder();
        createNames();
        createFull();
        openOrder();
        openSerials();
        readOrder();
        writeOrder();
        shortenOrder();
        removeOrder();
        removeOfDirectories();
        removeOfABrokenFile();
        lengthOrder();
        entryOrder();
        entryNumbers();
        chargeOrder();
        refusedCallsTakeNoCharge();
        whatIsRememberedMayChange();
        answersFalse();
        c.end();
    }

    /** The root is broken behind the names 1 and 2; no sector is free, and the bits of 32 unreadable ones are wrong. */
    private static LabelledVolume brokenAndFull() {
        LabelledVolume v = Volumes.withFiles(3);
        v.scratch(7);
        Volumes.scratchFree(v, 0);
        return v;
    }

    /** Promise 2: "(The first of these that is so; the entries are gone through up to that one, or to the end.)" */
    private static void createOrder() {
        c.refused(() -> brokenAndFull(), 0, NONE_SUCH, v -> v.create(9, 0, false), "create: no file, no name");
        c.refused(() -> brokenAndFull(), 0, ARGUMENT, v -> v.create(3, 1, false), "create in a file");
        c.refused(() -> brokenAndFull(), 0, ARGUMENT, v -> v.create(2, 1, false), "create in the map");
        c.refused(() -> brokenAndFull(), 0, ARGUMENT, v -> v.create(1, 0, false), "create in a broken one: no name");
        c.refused(() -> brokenAndFull(), 0, STATE, v -> v.create(1, 2, false), "create: a name that is there");
        c.refused(() -> brokenAndFull(), 1, STATE, v -> v.create(1, 3, false), "create: a name behind the break");
    }

    /** "the name is not 1 .. 9999". */
    private static void createNames() {
        int[] none = {0, -1, 10000, 10001, 65537, Integer.MIN_VALUE, Integer.MAX_VALUE};
        for (int name : none) {
            c.refused(() -> new LabelledVolume(), 0, ARGUMENT, v -> v.create(1, name, false), "create of " + name);
            c.refused(() -> new LabelledVolume(), 0, ARGUMENT, v -> v.create(1, name, true), "create of " + name);
        }
        int[] names = {1, 2, 9998, 9999};
        for (int name : names) {
            c.is(3, new LabelledVolume().create(1, name, false), "create of " + name);
        }
    }

    /** "(Of the map's page and of sectors a call looks for behind all else that it checks.)" */
    private static void createFull() {
        c.refused(() -> fullWithRoom(), 0, STATE, v -> v.create(1, 1, false), "create: a name, and full");
        c.refused(() -> fullWithRoom(), 35, STATE, v -> v.create(1, 2, false), "create: full");
    }

    /** No sector is free, the END has room for an entry, and file 3 is empty. */
    private static LabelledVolume fullWithRoom() {
        LabelledVolume v = Volumes.withFile(0);
        Volumes.scratchFree(v, 0);
        return v;
    }

    /** Promise 3: "Throws the first two likewise; IllegalArgumentException ..; IllegalStateException ..; then ..". */
    private static void openOrder() {
        c.refused(() -> brokenAndFull(), 0, NONE_SUCH, v -> v.open(9, 1), "open in no file");
        c.refused(() -> brokenAndFull(), 0, ARGUMENT, v -> v.open(3, 9), "open in a file");
        c.refused(() -> brokenAndFull(), 0, ARGUMENT, v -> v.open(2, 9), "open in the map");
        c.refused(() -> brokenAndFull(), 1, STATE, v -> v.open(1, 9), "open of no entry in a broken directory");
        c.is(4, brokenAndFull().open(1, 2), "open ahead of the broken place");
        int[] none = {4, 0, -1, 10000, 65537, Integer.MIN_VALUE, Integer.MAX_VALUE};
        for (int name : none) {
            c.refused(() -> Volumes.withFiles(3), 0, NONE_SUCH, v -> v.open(1, name), "open of " + name);
        }
    }

    private static LabelledVolume withEntry(int serial, int sector) {
        LabelledVolume v = Volumes.withFiles(3);
        v.scratch(7);
        v.spoil(4, 2, serial);
        v.spoil(4, 3, sector);
        return v;
    }

    /** "its serial is not 3 .. 60, or there is no leader": also where the sector is the leader of that serial. */
    private static void openSerials() {
        int[][] none = {{1, 0}, {2, 1}, {61, 3}, {62, 40}, {255, 3}};
        for (int[] entry : none) {
            String of = " of serial " + entry[0];
            c.refused(() -> withEntry(entry[0], entry[1]), 0, NONE_SUCH, v -> v.open(1, 1), "open" + of);
            c.refused(() -> withEntry(entry[0], entry[1]), 0, NONE_SUCH, v -> v.remove(1, 1), "remove" + of);
        }
        int[] withoutLeader = {6, 59, 60};
        for (int serial : withoutLeader) {
            String of = " of serial " + serial;
            c.refused(() -> withEntry(serial, 3), 1, NONE_SUCH, v -> v.open(1, 1), "open" + of);
            c.refused(() -> withEntry(serial, 3), 1, NONE_SUCH, v -> v.remove(1, 1), "remove" + of);
        }
        c.is(3, withEntry(3, 3).open(1, 1), "open of serial 3");
        c.is(4, withEntry(4, 5).open(1, 1), "open of serial 4");
        c.refused(() -> withoutLeader(), 2, NONE_SUCH, v -> v.open(1, 1), "open without a leader");
        c.refused(() -> withoutLeader(), 2, NONE_SUCH, v -> v.remove(1, 1), "remove without a leader");
    }

    private static LabelledVolume withoutLeader() {
        LabelledVolume v = Volumes.withFile(8);
        v.scratch(3);
        return v;
    }

    /** File 3 has 16 bytes, and page 1 can't be read; no sector is free. */
    private static LabelledVolume brokenFile(int hint) {
        LabelledVolume v = Volumes.withFile(16);
        v.scratch(5);
        v.spoil(3, 3, hint);
        Volumes.scratchFree(v, 0);
        return v;
    }

    private static LabelledVolume brokenFileWithoutMap() {
        LabelledVolume v = brokenFile(6);
        v.scratch(2);
        return v;
    }

    private static LabelledVolume withHint(int bytes, int hint) {
        LabelledVolume v = Volumes.withFile(bytes);
        v.spoil(3, 3, hint);
        return v;
    }

    /** Promise 4: no file, broken, "there is no such byte (this is known when the last page is found)". */
    private static void readOrder() {
        int[] none = {-1, 16, 17, 24, 256, Integer.MIN_VALUE, Integer.MAX_VALUE};
        for (int i : none) {
            c.refused(() -> brokenFile(99), 0, NONE_SUCH, v -> v.read(9, i), "read of no file, byte " + i);
            c.refused(() -> brokenFile(99), 2, STATE, v -> v.read(3, i), "read of a broken file, byte " + i);
            c.refused(() -> brokenFile(6), 0, INDEX, v -> v.read(3, i), "read of a hinted file, byte " + i);
            c.refused(() -> withHint(16, 99), 1, INDEX, v -> v.read(3, i), "read of byte " + i);
        }
        c.refused(() -> brokenFile(6), 1, STATE, v -> v.read(3, 7), "read of the page that is nowhere");
        c.refused(() -> Volumes.withFile(0), 0, INDEX, v -> v.read(3, 0), "read of an empty file");
        c.is(1, Volumes.withFile(16).read(3, 0), "first byte");
        c.is(16, Volumes.withFile(16).read(3, 15), "last byte");
    }

    /** Promise 5: no file, a directory or the map, broken, no such byte, full. */
    private static void writeOrder() {
        int[] none = {-1, 17, 24, Integer.MIN_VALUE, Integer.MAX_VALUE};
        for (int i : none) {
            c.refused(() -> brokenFile(99), 0, NONE_SUCH, v -> v.write(9, i, 1), "write to no file, byte " + i);
            c.refused(() -> brokenFile(99), 2, STATE, v -> v.write(3, i, 1), "write to a broken file, byte " + i);
            c.refused(() -> brokenFile(6), 0, INDEX, v -> v.write(3, i, 1), "write to a hinted file, byte " + i);
            c.refused(() -> withHint(16, 99), 1, INDEX, v -> v.write(3, i, 1), "write to byte " + i);
        }
        c.refused(() -> brokenFile(6), 1, STATE, v -> v.write(3, 7, 1), "write to the page that is nowhere");
        c.refused(() -> brokenFile(6), 33, STATE, v -> v.write(3, 16, 1), "write on a full volume");
        c.refused(() -> fullWithRoom(), 0, INDEX, v -> v.write(3, 1, 1), "write to byte 1 of an empty file");
        c.refused(() -> fullWithRoom(), 35, STATE, v -> v.write(3, 0, 1), "first byte on a full volume");
        noPlainFiles((v, file) -> v.write(file, -1, 0), "write");
    }

    /** Promise 6: "n is below 0, or above the length. The others likewise." */
    private static void shortenOrder() {
        int[] none = {-1, 17, 24, Integer.MIN_VALUE, Integer.MAX_VALUE};
        for (int n : none) {
            c.refused(() -> brokenFile(99), 0, NONE_SUCH, v -> v.shorten(9, n), "shorten of no file to " + n);
            c.refused(() -> brokenFile(99), 2, STATE, v -> v.shorten(3, n), "shorten of a broken file to " + n);
            c.refused(() -> brokenFile(6), 0, INDEX, v -> v.shorten(3, n), "shorten of a hinted file to " + n);
            c.refused(() -> withHint(16, 99), 1, INDEX, v -> v.shorten(3, n), "shorten to " + n);
        }
        c.refused(() -> brokenFile(6), 1, STATE, v -> v.shorten(3, 8), "shorten to a page that is nowhere");
        c.refused(() -> brokenFile(6), 1, STATE, v -> v.shorten(3, 0), "shorten beyond that page");
        c.refused(() -> brokenFileWithoutMap(), 1, STATE, v -> v.shorten(3, 8), "shorten without it and a map");
        c.refused(() -> Volumes.withFile(0), 0, INDEX, v -> v.shorten(3, 1), "shorten of an empty file to 1");
        noPlainFiles((v, file) -> v.shorten(file, -1), "shorten");
    }

    /** "IllegalArgumentException: it is a directory or the map (before the last page is found)." */
    private static void noPlainFiles(BiConsumer<LabelledVolume, Integer> call, String what) {
        int[] files = {1, 2, 4};
        for (int file : files) {
            c.refused(() -> spoiltHints(), 0, ARGUMENT, v -> call.accept(v, file), what + " of file " + file);
        }
    }

    /** The root, the map and directory 4, which is in sector 5, have hints of their last pages that are wrong. */
    private static LabelledVolume spoiltHints() {
        LabelledVolume v = Volumes.withFile(0);
        v.create(1, 2, true);
        v.spoil(0, 3, 99);
        v.spoil(1, 3, 99);
        v.spoil(5, 3, 99);
        v.scratch(2);
        v.scratch(4);
        return v;
    }

    /** Promise 7: "Throws as open()". */
    private static void removeOrder() {
        c.refused(() -> brokenAndFull(), 0, NONE_SUCH, v -> v.remove(9, 1), "remove in no file");
        c.refused(() -> brokenAndFull(), 0, ARGUMENT, v -> v.remove(3, 9), "remove in a file");
        c.refused(() -> brokenAndFull(), 0, ARGUMENT, v -> v.remove(2, 9), "remove in the map");
        c.refused(() -> brokenAndFull(), 1, STATE, v -> v.remove(1, 9), "remove of no entry in a broken directory");
        c.is(1, brokenAndFull().remove(1, 2), "remove ahead of the broken place");
        int[] none = {4, 0, -1, 10000, 65537, Integer.MIN_VALUE, Integer.MAX_VALUE};
        for (int name : none) {
            c.refused(() -> Volumes.withFiles(3), 0, NONE_SUCH, v -> v.remove(1, name), "remove of " + name);
        }
    }

    /** Directory 3, that is in sector 3, has three entries in its pages 6 and 9; the first few are holes then. */
    private static LabelledVolume withDirectory(int holes) {
        LabelledVolume v = new LabelledVolume();
        v.create(1, 1, true);
        for (int name = 1; name <= 3; name++) {
            v.create(3, name, false);
        }
        for (int name = 1; name <= holes; name++) {
            v.remove(3, name);
        }
        v.scratch(2);
        return v;
    }

    private static LabelledVolume withoutSecondPage(int holes) {
        LabelledVolume v = withDirectory(holes);
        v.scratch(9);
        return v;
    }

    /** "it is a directory with an entry that is no hole (gone through up to that one), or it is broken." */
    private static void removeOfDirectories() {
        c.refused(() -> withDirectory(0), 0, STATE, v -> v.remove(1, 1), "remove of a directory without holes");
        c.refused(() -> withDirectory(1), 0, STATE, v -> v.remove(1, 1), "remove of a directory with a hole");
        c.refused(() -> withDirectory(2), 0, STATE, v -> v.remove(1, 1), "remove of a directory with two holes");
        c.is(3, withDirectory(3).remove(1, 1), "remove of a directory with holes alone");
        c.refused(() -> withoutSecondPage(0), 0, STATE, v -> v.remove(1, 1), "an entry in the first page");
        c.refused(() -> withoutSecondPage(1), 0, STATE, v -> v.remove(1, 1), "an entry behind a hole");
        c.refused(() -> withoutSecondPage(2), 1, STATE, v -> v.remove(1, 1), "two holes, and it is broken");
    }

    /** ".. or it is broken": it is known before anything is written, and before the map's page is found. */
    private static void removeOfABrokenFile() {
        c.refused(() -> brokenFile(6), 1, STATE, v -> v.remove(1, 1), "remove without page 1");
        c.refused(() -> brokenFile(99), 2, STATE, v -> v.remove(1, 1), "remove without page 1 and the hint");
        c.refused(() -> brokenFileWithoutMap(), 1, STATE, v -> v.remove(1, 1), "remove without page 1 and a map");
    }

    /** Promise 8: no file, broken. */
    private static void lengthOrder() {
        c.refused(() -> brokenFile(99), 0, NONE_SUCH, v -> v.length(9), "length of no file");
        c.refused(() -> brokenFile(99), 2, STATE, v -> v.length(3), "length of a broken file");
        c.is(16, brokenFile(6).length(3), "length by the hint");
    }

    /** Promise 9: no file; no directory, or what; broken "(gone through up to this one)"; then no such entry. */
    private static void entryOrder() {
        c.refused(() -> brokenAndFull(), 0, NONE_SUCH, v -> v.entry(9, 2, 3), "entry of no file, what 3");
        c.refused(() -> brokenAndFull(), 0, ARGUMENT, v -> v.entry(3, -1, 0), "entry -1 of a file");
        c.refused(() -> brokenAndFull(), 0, ARGUMENT, v -> v.entry(2, -1, 0), "entry -1 of the map");
        int[] none = {-1, 3, Integer.MIN_VALUE, Integer.MAX_VALUE};
        for (int what : none) {
            c.refused(() -> brokenAndFull(), 0, ARGUMENT, v -> v.entry(1, 2, what), "entry 2, what " + what);
            c.refused(() -> brokenAndFull(), 0, ARGUMENT, v -> v.entry(1, -1, what), "entry -1, what " + what);
        }
        c.is(2, brokenAndFull().entry(1, 1, 0), "name of the last entry ahead of the broken place");
        c.is(4, brokenAndFull().entry(1, 1, 1), "its serial");
        c.is(5, brokenAndFull().entry(1, 1, 2), "its sector");
    }

    /** "it has no such entry (for a k below 0 none are gone through)". */
    private static void entryNumbers() {
        int[] below = {-1, -2, Integer.MIN_VALUE};
        for (int k : below) {
            c.refused(() -> brokenAndFull(), 0, NONE_SUCH, v -> v.entry(1, k, 0), "entry " + k);
            c.refused(() -> spoiltHints(), 0, NONE_SUCH, v -> v.entry(1, k, 0), "entry " + k + " without a page");
        }
        int[] behind = {2, 3, 99, Integer.MAX_VALUE};
        for (int k : behind) {
            c.refused(() -> brokenAndFull(), 1, STATE, v -> v.entry(1, k, 0), "entry " + k + " of a broken one");
            c.refused(() -> Volumes.withFiles(2), 0, NONE_SUCH, v -> v.entry(1, k, 0), "entry " + k + " of two");
        }
        c.refused(() -> new LabelledVolume(), 0, NONE_SUCH, v -> v.entry(1, 0, 0), "entry 0 of an empty root");
    }

    /** Promise 11: "IllegalArgumentException: n is not 0 .. 99. UnsupportedOperationException: no power." */
    private static void chargeOrder() {
        int[] none = {-1, 100, Integer.MIN_VALUE, Integer.MAX_VALUE};
        LabelledVolume v = Volumes.withFile(1);
        v.charge(1);
        for (int n : none) {
            c.fails(ARGUMENT, () -> v.charge(n), "charge(" + n + ")");
        }
        v.write(3, 0, 1);
        c.fails(POWER, () -> v.write(3, 0, 2), "write behind the charge that stood");
        for (int n : none) {
            c.fails(ARGUMENT, () -> v.charge(n), "charge(" + n + ") without power");
        }
        c.fails(POWER, () -> v.charge(0), "charge(0) without power");
        c.fails(POWER, () -> v.charge(99), "charge(99) without power");
        c.is(0, v.state(4), "power");
    }

    /** A call that is refused writes nothing, so that a charge of 0 and the power are still there. */
    private static void refusedCallsTakeNoCharge() {
        LabelledVolume v = Volumes.withFile(8);
        Volumes.scratchFree(v, 0);
        v.charge(0);
        c.fails(INDEX, () -> v.write(3, 9, 1), "write beyond the length");
        c.fails(INDEX, () -> v.shorten(3, 9), "shorten beyond the length");
        c.fails(STATE, () -> v.write(3, 8, 1), "write on a full volume");
        c.fails(STATE, () -> v.create(1, 2, false), "create on a full volume");
        c.fails(STATE, () -> v.create(1, 1, false), "create of a name that is there");
        c.fails(NONE_SUCH, () -> v.remove(1, 2), "remove of no entry");
        c.fails(ARGUMENT, () -> v.write(1, 0, 0), "write to the root");
        c.is(1, v.state(4), "power");
        c.fails(POWER, () -> v.write(3, 7, 1), "write with charge 0");
        c.is(0, v.state(4), "power");
    }

    /** ".. nothing but the misses, and what is remembered." */
    private static void whatIsRememberedMayChange() {
        LabelledVolume v = Volumes.withFile(8);
        v.ghost(3, 30);
        v.scratch(3);
        c.fails(INDEX, () -> v.read(3, 8), "read with the leader elsewhere");
        c.misses(v, 1, "of the leader");
        c.is(8, v.length(3), "length");
        c.misses(v, 1, "as the refused call has remembered the leader");
    }

    /** Promises 12 to 14: what answers false has changed nothing. */
    private static void answersFalse() {
        LabelledVolume v = Volumes.withFile(8);
        v.scratch(30);
        String before = Volumes.picture(v);
        c.is(false, v.spoil(5, 8, 1), "spoil of byte 8");
        c.is(false, v.spoil(5, -1, 1), "spoil of byte -1");
        c.is(false, v.spoil(40, 0, 1), "spoil of no sector");
        c.is(false, v.spoil(6, 0, 1), "spoil of a free sector");
        c.is(false, v.spoil(30, 0, 1), "spoil of an unreadable sector");
        c.is(false, v.scratch(30), "scratch of an unreadable sector");
        c.is(false, v.scratch(40), "scratch of no sector");
        c.is(false, v.ghost(5, 4), "ghost onto a sector in use");
        c.is(false, v.ghost(5, 5), "ghost onto itself");
        c.is(false, v.ghost(5, 30), "ghost onto an unreadable sector");
        c.is(false, v.ghost(6, 7), "ghost of a free sector");
        c.is(false, v.ghost(6, 5), "ghost of a free sector onto one in use");
        c.is(false, v.ghost(30, 6), "ghost of an unreadable sector");
        c.is(false, v.ghost(40, 6), "ghost of no sector");
        c.is(false, v.ghost(5, 40), "ghost onto no sector");
        c.is(0, v.data(6, 0), "data of a free sector");
        c.is(1, v.state(3), "unreadable sectors");
        c.is(33, v.state(2), "free sectors");
        c.note(before.equals(Volumes.picture(v)), "what answers false changed a sector");
    }
}
