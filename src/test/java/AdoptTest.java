import java.util.NoSuchElementException;

/** Promise 10, step (4): files that no directory reaches are ADOPTED by the root. */
public final class AdoptTest {
    private static final Check c = new Check();

    public static void main(String[] args) {
        leaderWithoutAnEntry();
        firstHole();
        newPages();
        noRoomForAPage();
        namesThatAreNot();
        nameThatTheRootHas();
        bytesBehindTheLastEntryAreNoName();
        notListedGoesFirst();
        listedUnderAnotherName();
        ring();
        directoryThatListsItself();
        c.end();
    }

    private static void adopts(LabelledVolume v, int files, int adopted) {
        c.is(files, v.scavenge(), "scavenge");
        c.is(adopted, v.report(3), "files adopted");
    }

    /** A leader that was written before the power went. */
    private static void leaveLeader(LabelledVolume v, int name, boolean directory) {
        v.charge(1);
        try {
            v.create(1, name, directory);
        } catch (UnsupportedOperationException e) {
            return;
        }
        c.note(false, "create with charge 1 did not throw");
    }

    private static void leaderWithoutAnEntry() {
        LabelledVolume v = Volumes.withFile(0);
        leaveLeader(v, 77, false);
        adopts(v, 4, 1);
        c.data(v, 4, 0, 1, 3, 3, 0, 77, 4, 5);
        c.is(8, v.label(4, 2), "USED of the root's page");
        c.is(4, v.open(1, 77), "open of the adopted file");
    }

    private static void firstHole() {
        LabelledVolume v = new LabelledVolume();
        for (int name = 1; name <= 3; name++) {
            v.create(1, name, false);
        }
        v.remove(1, 2);
        v.remove(1, 1);
        leaveLeader(v, 9, false);
        adopts(v, 4, 1);
        c.is(9, v.entry(1, 0, 0), "name in the first hole");
        c.is(0, v.entry(1, 1, 0), "name in the second hole");
    }

    private static void newPages() {
        LabelledVolume v = new LabelledVolume();
        leaveLeader(v, 5, false);
        adopts(v, 3, 1);
        c.label(v, 4, 1, 1, 4, -1, 0);
        c.data(v, 4, 0, 5, 3, 3, 0, 0, 0, 0);
        c.label(v, 0, 1, 0, 8, 4, -1);
        c.is(4, v.data(0, 3), "hint of the root's leader");
        c.data(v, 2, 224);
        c.is(3, v.report(4), "sectors written: page, root's leader, map");
        v.create(1, 6, false);
        leaveLeader(v, 7, false);
        adopts(v, 5, 1);
        c.label(v, 7, 1, 2, 4, -1, 4);
        c.is(7, v.label(4, 3), "NEXT of the page that was the last");
        c.is(5, v.open(1, 7), "open of the adopted file");
    }

    private static void noRoomForAPage() {
        LabelledVolume v = Volumes.full();
        v.shorten(3, 256);
        v.create(1, 2, false);
        leaveLeader(v, 3, false);
        v.scratch(39);
        c.is(0, v.state(2), "free sectors");
        adopts(v, 5, 0);
        c.label(v, 38, 5, 0, 8, -1, -1);
        c.fails(NoSuchElementException.class, () -> v.open(1, 3), "open of what was not adopted");
        c.is(0, v.length(5), "length of what was not adopted");
        v.shorten(3, 248);
        adopts(v, 5, 1);
        c.is(5, v.open(1, 3), "open when there was room");
    }

    private static void namesThatAreNot() {
        LabelledVolume v = Volumes.withFile(0);
        v.spoil(3, 0, 0);
        v.spoil(3, 1, 0);
        adopts(v, 3, 1);
        c.is(3, v.open(1, 10003), "open of a file that had the name 0");
        c.data(v, 3, 39, 19);

        LabelledVolume w = Volumes.withFile(0);
        w.spoil(3, 0, 39);
        w.spoil(3, 1, 16);
        adopts(w, 3, 1);
        c.is(3, w.open(1, 10003), "open of a file that had the name 10000");

        LabelledVolume x = Volumes.withFile(0);
        x.spoil(3, 0, 39);
        x.spoil(3, 1, 15);
        adopts(x, 3, 1);
        c.is(3, x.open(1, 9999), "open of a file that had the name 9999");
    }

    private static void nameThatTheRootHas() {
        LabelledVolume v = Volumes.withFile(0);
        leaveLeader(v, 2, true);
        v.spoil(5, 1, 1);
        adopts(v, 4, 1);
        c.is(3, v.open(1, 1), "open of the file that had an entry");
        c.is(4, v.open(1, 10004), "open of the adopted one");
        c.data(v, 5, 39, 20, 1);
    }

    private static void bytesBehindTheLastEntryAreNoName() {
        LabelledVolume v = Volumes.withFile(0);
        leaveLeader(v, 2, false);
        v.spoil(4, 5, 2);
        v.spoil(4, 6, 9);
        adopts(v, 4, 1);
        c.is(4, v.open(1, 2), "open of the adopted file by its own name");
    }

    /** Files 3, 4 and 5 without entries in the root; directory 4 has one for file 3, under a name. */
    private static LabelledVolume looseDirectoryWithEntry(int name) {
        LabelledVolume v = new LabelledVolume();
        v.create(1, 1, false);
        v.create(1, 2, true);
        v.create(4, 3, false);
        c.data(v, 7, 0, 3, 5, 6);
        v.spoil(7, 1, name);
        v.spoil(7, 2, 3);
        v.spoil(4, 2, 0);
        v.spoil(4, 6, 0);
        return v;
    }

    /** Of the files that are not reached 4 is the lowest that is in no directory. */
    private static void notListedGoesFirst() {
        LabelledVolume v = looseDirectoryWithEntry(1);
        adopts(v, 5, 2);
        c.is(4, v.entry(1, 0, 1), "serial in the root's first entry");
        c.is(5, v.entry(1, 1, 1), "serial in the root's second entry");
        c.is(3, v.open(4, 1), "open in the directory");
        c.is(3, v.entry(4, 0, 2), "hint put right in the directory");
    }

    /** An entry with another name than the leader's does not list the file. */
    private static void listedUnderAnotherName() {
        LabelledVolume v = looseDirectoryWithEntry(3);
        adopts(v, 5, 3);
        for (int k = 0; k < 3; k++) {
            c.is(k + 3, v.entry(1, k, 1), "serial in the root's entry " + k);
        }
        c.is(0, v.entry(4, 0, 1), "a hole in the directory");
    }

    /** Directories 3 and 4 list one another, file 5 is listed by none. */
    private static void ring() {
        LabelledVolume v = new LabelledVolume();
        v.create(1, 1, true);
        v.create(3, 2, true);
        v.create(4, 9, false);
        c.data(v, 8, 0, 9, 5, 7);
        v.spoil(8, 1, 1);
        v.spoil(8, 2, 3);
        v.spoil(4, 2, 0);
        adopts(v, 5, 2);
        c.is(5, v.entry(1, 0, 1), "serial in the root's first entry");
        c.is(3, v.entry(1, 1, 1), "serial in the root's second entry");
        c.is(4, v.open(3, 2), "open in the directory adopted");
        c.is(0, v.entry(4, 0, 1), "the entry that closed the ring is a hole");
    }

    private static void directoryThatListsItself() {
        LabelledVolume v = new LabelledVolume();
        v.create(1, 1, true);
        v.create(1, 2, true);
        v.create(3, 5, false);
        v.create(4, 6, false);
        c.data(v, 7, 0, 5, 5, 6);
        v.spoil(7, 1, 1);
        v.spoil(7, 2, 3);
        v.spoil(4, 2, 0);
        adopts(v, 6, 2);
        c.is(3, v.entry(1, 0, 1), "serial in the root's first entry");
        c.is(0, v.entry(3, 0, 1), "the entry for itself is a hole");
        c.is(5, v.entry(1, 2, 1), "serial of the file that lost its entry");
    }
}
