import java.util.NoSuchElementException;

/** Promise 10, step (4): files that no directory reaches are ADOPTED by the root. */
public final class AdoptTest {
    private static final Check c = new Check();

    public static void main(String[] args) {
        leaderWithoutAnEntry();
        firstHole();
        newPages();
        noRoomForAPage();
        noNewNameWithoutRoom();
        over();
        overForAWholeDirectory();
        names();
        nameZeroWithoutAHole();
        nameThatTheRootHas();
        nameThatEachEntryHas();
        nameThatAnotherDirectoryHas();
        nameThatAnAdoptedFileHas();
        bytesBehindTheLastEntryAreNoName();
        notListedGoesFirst();
        listedByEachEntry();
        listedUnderAnotherName();
        anotherFileWithTheName();
        ring();
        directoryThatListsItself();
        withoutAMap();
        c.end();
    }

    private static void adopts(LabelledVolume v, int files, int adopted) {
        c.is(files, v.scavenge(), "scavenge");
        c.is(adopted, v.report(3), "files adopted");
    }

    /** A leader that was written before the power went. */
    private static void leaveLeader(LabelledVolume v, int name, boolean directory) {
        v.charge(1);
        try {
            v.create(1, name, directory);
        } catch (UnsupportedOperationException e) {
            return;
        }
        c.note(false, "create with charge 1 did not throw");
    }

    /** "an entry for it comes into the root's first hole, else behind its last entry as above". */
    private static void leaderWithoutAnEntry() {
        LabelledVolume v = Volumes.withFile(0);
        leaveLeader(v, 77, false);
        adopts(v, 4, 1);
        c.data(v, 4, 0, 1, 3, 3, 0, 77, 4, 5);
        c.is(8, v.label(4, 2), "USED of the root's page");
        c.is(4, v.open(1, 77), "open of the adopted file");
    }

    /** "an entry for it comes into the root's first hole". */
    private static void firstHole() {
        LabelledVolume v = new LabelledVolume();
        for (int name = 1; name <= 3; name++) {
            v.create(1, name, false);
        }
        v.remove(1, 2);
        v.remove(1, 1);
        leaveLeader(v, 9, false);
        adopts(v, 4, 1);
        c.is(9, v.entry(1, 0, 0), "name in the first hole");
        c.is(0, v.entry(1, 1, 0), "name in the second hole");
    }

    /** "if it needs a page, the lowest free sector is taken". */
    private static void newPages() {
        LabelledVolume v = new LabelledVolume();
        leaveLeader(v, 5, false);
        adopts(v, 3, 1);
        c.label(v, 4, 1, 1, 4, -1, 0);
        c.data(v, 4, 0, 5, 3, 3, 0, 0, 0, 0);
        c.label(v, 0, 1, 0, 8, 4, -1);
        c.is(4, v.data(0, 3), "hint of the root's leader");
        c.data(v, 2, 224);
        c.is(3, v.report(4), "sectors written: page, root's leader, map");
        v.create(1, 6, false);
        leaveLeader(v, 7, false);
        adopts(v, 5, 1);
        c.label(v, 7, 1, 2, 4, -1, 4);
        c.is(7, v.label(4, 3), "NEXT of the page that was the last");
        c.is(5, v.open(1, 7), "open of the adopted file");
    }

    /** "if it needs a page, the lowest free sector is taken; if there is none, (4) is over." */
    private static void noRoomForAPage() {
        LabelledVolume v = Volumes.withFiles(2);
        leaveLeader(v, 3, false);
        Volumes.scratchFree(v, 0);
        adopts(v, 5, 0);
        c.label(v, 6, 5, 0, 8, -1, -1);
        c.data(v, 6, 0, 3, 0, 6);
        c.fails(NoSuchElementException.class, () -> v.open(1, 3), "open of what was not adopted");
        c.is(0, v.length(5), "length of what was not adopted");
        v.remove(1, 1);
        adopts(v, 4, 1);
        c.is(5, v.entry(1, 0, 1), "serial in the hole, when there is one");

        LabelledVolume w = Volumes.withFiles(2);
        leaveLeader(w, 3, false);
        Volumes.scratchFree(w, 1);
        adopts(w, 5, 1);
        c.label(w, 7, 1, 2, 4, -1, 4);
        c.is(5, w.open(1, 3), "open when there was room");
    }

    /** The same: a file that is not adopted keeps its name, be it one that would have been changed. */
    private static void noNewNameWithoutRoom() {
        for (int name = 0; name <= 1; name++) {
            LabelledVolume v = Volumes.withFiles(2);
            leaveLeader(v, 3, false);
            v.spoil(6, 1, name);
            Volumes.scratchFree(v, 0);
            adopts(v, 5, 0);
            c.data(v, 6, 0, name, 0, 6);
            c.is(1, v.report(4), "sectors written: the map");
        }
    }

    /** The same: the first file has the room that there is, and the others are left. */
    private static void over() {
        LabelledVolume v = Volumes.withFiles(4);
        // The root's second page, in sector 7, has the entries of the files 5 and 6, which are in 6 and 8.
        v.scratch(7);
        v.remove(1, 2);
        Volumes.scratchFree(v, 0);
        adopts(v, 5, 1);
        c.is(5, v.open(1, 3), "open of the lowest file");
        c.fails(NoSuchElementException.class, () -> v.open(1, 4), "open of the next one");
        c.is(0, v.length(6), "length of it");
    }

    /** The same: what is in a directory that was not adopted is not walked. */
    private static void overForAWholeDirectory() {
        LabelledVolume v = new LabelledVolume();
        v.create(1, 1, true);
        v.create(3, 2, false);
        // Directory 3 is in sector 3, the root's page in 4, file 4 in 5, the directory's page in 6.
        v.spoil(6, 3, 99);
        v.scratch(4);
        Volumes.scratchFree(v, 0);
        adopts(v, 4, 0);
        c.data(v, 6, 0, 2, 4, 99);
        c.is(-1, v.label(0, 3), "NEXT of the root's leader");
    }

    /** "The name is its leader's, if that is 1 .. 9999 .., else 10000 + serial, and this is its leader's then." */
    private static void names() {
        int[] kept = {1, 2, 255, 256, 9998, 9999};
        for (int name : kept) {
            adoptedAs(name, name);
        }
        int[] changed = {0, 10000, 10001, 10003, 10004, 65535};
        for (int name : changed) {
            adoptedAs(name, 10003);
        }
    }

    private static void adoptedAs(int name, int due) {
        LabelledVolume v = Volumes.withFile(0);
        v.spoil(4, 2, 0);
        v.spoil(3, 0, name >> 8);
        v.spoil(3, 1, name);
        adopts(v, 3, 1);
        c.is(due, v.entry(1, 0, 0), "name in the entry of a file that had the name " + name);
        c.is(due, v.data(3, 0) * 256 + v.data(3, 1), "name in the leader that had the name " + name);
        c.is(3, v.open(1, due), "open of the file that had the name " + name);
    }

    /** The same: 0 is no name, also when no hole of the root has it. */
    private static void nameZeroWithoutAHole() {
        LabelledVolume v = Volumes.withFile(0);
        leaveLeader(v, 2, false);
        v.spoil(5, 1, 0);
        adopts(v, 4, 1);
        c.is(4, v.open(1, 10004), "open of the file that had the name 0");
        c.data(v, 5, 39, 20, 0, 5);
    }

    /** ".. and no entry of the root has it". */
    private static void nameThatTheRootHas() {
        LabelledVolume v = Volumes.withFile(0);
        leaveLeader(v, 2, true);
        v.spoil(5, 1, 1);
        adopts(v, 4, 1);
        c.is(3, v.open(1, 1), "open of the file that had an entry");
        c.is(4, v.open(1, 10004), "open of the adopted one");
        c.data(v, 5, 39, 20, 1);
    }

    /** The same: whichever entry it is. */
    private static void nameThatEachEntryHas() {
        for (int name = 1; name <= 4; name++) {
            LabelledVolume v = Volumes.withFiles(3);
            leaveLeader(v, 99, false);
            v.spoil(8, 1, name);
            adopts(v, 6, 1);
            c.is(name < 4 ? 10006 : 4, v.entry(1, 3, 0), "name of the file that had the name " + name);
            c.is(6, v.entry(1, 3, 1), "serial of the adopted file");
        }
    }

    /** "no entry of the root has it": another directory's may. */
    private static void nameThatAnotherDirectoryHas() {
        LabelledVolume v = new LabelledVolume();
        v.create(1, 1, true);
        v.create(3, 77, false);
        leaveLeader(v, 77, false);
        adopts(v, 5, 1);
        c.is(5, v.open(1, 77), "open in the root");
        c.is(4, v.open(3, 77), "open in the directory");
    }

    /** The same: of two with one name the first one has it. */
    private static void nameThatAnAdoptedFileHas() {
        LabelledVolume v = Volumes.withFiles(2);
        v.spoil(5, 1, 1);
        v.spoil(4, 2, 0);
        adopts(v, 4, 2);
        c.is(3, v.open(1, 1), "open of the first one");
        c.is(4, v.open(1, 10004), "open of the second one");
    }

    /** "no entry of the root has it": bytes behind what is USED are no entry. */
    private static void bytesBehindTheLastEntryAreNoName() {
        LabelledVolume v = Volumes.withFile(0);
        leaveLeader(v, 2, false);
        v.spoil(4, 5, 2);
        v.spoil(4, 6, 9);
        adopts(v, 4, 1);
        c.is(4, v.open(1, 2), "open of the adopted file by its own name");
    }

    /** Files 3, 4 and 5 without entries in the root; directory 4 has one for file 3, under a name. */
    private static LabelledVolume looseDirectoryWithEntry(int name) {
        LabelledVolume v = new LabelledVolume();
        v.create(1, 1, false);
        v.create(1, 2, true);
        v.create(4, 3, false);
        c.data(v, 7, 0, 3, 5, 6);
        v.spoil(7, 1, name);
        v.spoil(7, 2, 3);
        v.spoil(4, 2, 0);
        v.spoil(4, 6, 0);
        return v;
    }

    /** "the lowest one that no other directory not reached has an entry for": of 3, 4 and 5 that is 4, and then 5. */
    private static void notListedGoesFirst() {
        LabelledVolume v = looseDirectoryWithEntry(1);
        adopts(v, 5, 2);
        c.is(4, v.entry(1, 0, 1), "serial in the root's first entry");
        c.is(5, v.entry(1, 1, 1), "serial in the root's second entry");
        c.is(3, v.open(4, 1), "open in the directory");
        c.is(3, v.entry(4, 0, 2), "hint put right in the directory");
    }

    /** The same: whichever entry of the directory it is. */
    private static void listedByEachEntry() {
        for (int k = 0; k < 3; k++) {
            LabelledVolume v = new LabelledVolume();
            v.create(1, 1, false);
            v.create(1, 2, true);
            for (int name = 11; name <= 13; name++) {
                v.create(4, name, false);
            }
            // Directory 4 has the files 5 and 6 in its page in 7, and file 7 in its page in 10.
            int page = k < 2 ? 7 : 10;
            v.spoil(page, k % 2 * 4 + 1, 1);
            v.spoil(page, k % 2 * 4 + 2, 3);
            v.spoil(4, 2, 0);
            v.spoil(4, 6, 0);
            adopts(v, 7, 2);
            c.is(4, v.entry(1, 0, 1), "serial in the root's first entry");
            c.is(5 + k, v.entry(1, 1, 1), "serial of the file that lost its entry");
            c.is(3, v.entry(4, k, 1), "serial in entry " + k + " of the directory");
        }
    }

    /** "(with its serial and its leader's name)": an entry with another name does not list the file. */
    private static void listedUnderAnotherName() {
        int[][] names = {{1, 3}, {5, 3}};
        for (int[] name : names) {
            LabelledVolume v = looseDirectoryWithEntry(name[1]);
            v.spoil(3, 1, name[0]);
            adopts(v, 5, 3);
            for (int k = 0; k < 3; k++) {
                c.is(k + 3, v.entry(1, k, 1), "serial in the root's entry " + k);
            }
            c.is(0, v.entry(4, 0, 1), "a hole in the directory");
        }
    }

    /** The same: nor does an entry with that name and a serial above, or below, that of the file. */
    private static void anotherFileWithTheName() {
        LabelledVolume v = new LabelledVolume();
        v.create(1, 7, false);
        v.create(1, 2, true);
        v.create(4, 7, false);
        v.spoil(4, 2, 0);
        v.spoil(4, 6, 0);
        adopts(v, 5, 2);
        c.is(3, v.entry(1, 0, 1), "serial in the root's first entry");
        c.is(4, v.entry(1, 1, 1), "serial in the root's second entry");
        c.is(5, v.open(4, 7), "open in the directory");

        LabelledVolume w = new LabelledVolume();
        w.create(1, 1, false);
        w.create(1, 7, false);
        w.create(1, 2, true);
        w.create(5, 9, false);
        // File 3 is in sector 3, the root's pages in 4 and 7, directory 5's page, with an entry for file 6, in 9.
        w.spoil(3, 1, 7);
        w.spoil(9, 1, 7);
        w.spoil(9, 2, 3);
        w.spoil(4, 2, 0);
        w.spoil(4, 6, 0);
        w.spoil(7, 2, 0);
        adopts(w, 6, 3);
        for (int k = 0; k < 3; k++) {
            c.is(k + 4, w.entry(1, k, 1), "serial in the root's entry " + k);
        }
        c.is(3, w.open(5, 7), "open in the directory");
    }

    /** "or, if each is in one, the lowest of all": directories 3 and 4 list one another, file 5 is listed by none. */
    private static void ring() {
        LabelledVolume v = new LabelledVolume();
        v.create(1, 1, true);
        v.create(3, 2, true);
        v.create(4, 9, false);
        c.data(v, 8, 0, 9, 5, 7);
        v.spoil(8, 1, 1);
        v.spoil(8, 2, 3);
        v.spoil(4, 2, 0);
        adopts(v, 5, 2);
        c.is(5, v.entry(1, 0, 1), "serial in the root's first entry");
        c.is(3, v.entry(1, 1, 1), "serial in the root's second entry");
        c.is(4, v.open(3, 2), "open in the directory adopted");
        c.is(0, v.entry(4, 0, 1), "the entry that closed the ring is a hole");
    }

    /** "no other directory not reached": its own entry does not keep a directory back. */
    private static void directoryThatListsItself() {
        LabelledVolume v = new LabelledVolume();
        v.create(1, 1, true);
        v.create(1, 2, true);
        v.create(3, 5, false);
        v.create(4, 6, false);
        c.data(v, 7, 0, 5, 5, 6);
        v.spoil(7, 1, 1);
        v.spoil(7, 2, 3);
        v.spoil(4, 2, 0);
        adopts(v, 6, 2);
        c.is(3, v.entry(1, 0, 1), "serial in the root's first entry");
        c.is(0, v.entry(3, 0, 1), "the entry for itself is a hole");
        c.is(5, v.entry(1, 2, 1), "serial of the file that lost its entry");
    }

    /** "If the root is not, (3) and (4) are left out.": for want of the map they are not. */
    private static void withoutAMap() {
        LabelledVolume v = Volumes.withFile(0);
        leaveLeader(v, 77, false);
        v.scratch(1);
        v.scratch(2);
        Volumes.scratchFree(v, 0);
        adopts(v, 3, 1);
        c.is(4, v.open(1, 77), "open of the adopted file");
    }
}
