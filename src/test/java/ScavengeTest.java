import java.util.NoSuchElementException;

/** Promise 10: scavenge, and promise 18 with it: what it reports. */
public final class ScavengeTest {
    private static final Check c = new Check();

    public static void main(String[] args) {
        nothingToDo();
        countsFiles();
        nothingIsLeft();
        powerAndMemory();
        whatIsRememberedIsForgotten();
        hintsAndLinks();
        lowestOfSeveral();
        pagesBehindAGap();
        pagesBehindAShortOne();
        pagesBehindSevenOrEight();
        leaderWithoutPageOne();
        lowestOfSeveralPages();
        headlessFileWithAGap();
        onlyALaterPage();
        headlessFile();
        headlessDirectory();
        headlessFileWithoutRoom();
        headlessFileWithRoomForALeader();
        headlessFilesBySerials();
        rootWithoutLeader();
        rootWithoutLeaderAndRoom();
        rootLosesAllItsPages();
        rootThatIsNotThere();
        rootThatIsThereAgain();
        leadersInOrder();
        mapWithoutLeaderOrPage();
        mapWithoutRoom();
        mapWithLittleRoom();
        entriesThatDoNotCount();
        oneReasonNotToCount();
        entriesForTheRootAndTheMap();
        namesThatAgree();
        holesAreAllZero();
        bytesThatAreNoEntry();
        entriesForOneFileTwice();
        directoriesAreWalkedAtOnce();
        deepDirectories();
        eachBitOfTheMap();
        countedOnce();
        otherInTheSerialAlone();
        fiveBytesOfTheMap();
        spoiltNameAndKindOfTheMap();
        spoiltNameAndKindOfTheRoot();
        spoiltLeaderThatIsAGhost();
        spoiltLeaderOfAPlainFile();
        c.end();
    }

    /** Scavenges: files there, sectors lost, leaders made, files adopted, sectors written; and then nothing more. */
    private static void scavenge(LabelledVolume v, int files, int lost, int made, int adopted, int written) {
        int before = v.state(1);
        c.is(files, v.scavenge(), "scavenge");
        int[] due = {files, lost, made, adopted, written};
        for (int what = 0; what < due.length; what++) {
            c.is(due[what], v.report(what), "report(" + what + ")");
        }
        c.written(v, before + written, "in all");
        c.is(files, v.scavenge(), "scavenge again");
        for (int what = 1; what < due.length; what++) {
            c.is(0, v.report(what), "report(" + what + ") of scavenging again");
        }
        c.written(v, before + written, "in all, by scavenging again");
    }

    private static void nothingToDo() {
        scavenge(new LabelledVolume(), 2, 0, 0, 0, 0);
        LabelledVolume v = Volumes.withFile(20);
        v.create(1, 2, true);
        v.create(4, 3, false);
        v.shorten(3, 2);
        v.remove(4, 3);
        scavenge(v, 4, 0, 0, 0, 0);
        c.misses(v, 0, "by scavenging");
    }

    /** "how many files are there then, the root and the map among them." */
    private static void countsFiles() {
        for (int files = 0; files <= 5; files++) {
            scavenge(Volumes.withFiles(files), files + 2, 0, 0, 0, 0);
        }
        LabelledVolume withoutMap = Volumes.withFiles(2);
        withoutMap.scratch(1);
        withoutMap.scratch(2);
        Volumes.scratchFree(withoutMap, 0);
        scavenge(withoutMap, 3, 0, 0, 0, 0);
        LabelledVolume withoutRoot = Volumes.withFiles(2);
        withoutRoot.scratch(0);
        withoutRoot.scratch(4);
        Volumes.scratchFree(withoutRoot, 0);
        scavenge(withoutRoot, 3, 0, 0, 0, 1);
    }

    /** The same: none, when no sector can be read. */
    private static void nothingIsLeft() {
        LabelledVolume v = Volumes.withFile(8);
        for (int sector = 0; sector < 40; sector++) {
            v.scratch(sector);
        }
        scavenge(v, 0, 0, 0, 0, 0);
        c.is(0, v.state(2), "free sectors");
        c.is(40, v.state(3), "unreadable sectors");
        c.fails(NoSuchElementException.class, () -> v.create(1, 1, false), "create without a root");
        c.fails(NoSuchElementException.class, () -> v.length(2), "length of no map");
        c.misses(v, 0, "as nothing is remembered");
    }

    private static void powerAndMemory() {
        LabelledVolume v = Volumes.withFile(8);
        v.charge(1);
        c.fails(UnsupportedOperationException.class, () -> v.write(3, 8, 9), "write with charge 1");
        scavenge(v, 3, 0, 0, 0, 3);
        c.is(1, v.state(4), "power");
        c.is(9, v.length(3), "length with the page that was written");
        c.is(9, v.read(3, 8), "the byte in it");
        c.label(v, 5, 3, 1, 8, 6, 3);
        Volumes.append(v, 3, 20);
        c.is(29, v.length(3), "length, without a charge");

        v.charge(1);
        v.scavenge();
        Volumes.append(v, 3, 20);
        c.is(1, v.state(4), "power, as the charge is gone");

        LabelledVolume w = Volumes.withFile(0);
        w.ghost(3, 30);
        w.scavenge();
        w.ghost(3, 30);
        w.scratch(3);
        c.is(0, w.length(3), "length by the ghost");
        c.misses(w, 1, "of its hint, not of a remembered leader");
    }

    /** "what is remembered is forgotten": of the root, the map and other files. */
    private static void whatIsRememberedIsForgotten() {
        for (int file = 1; file <= 3; file++) {
            int serial = file;
            LabelledVolume v = Volumes.withFile(8);
            v.length(serial);
            v.scavenge();
            v.scratch(serial == 3 ? 3 : serial - 1);
            c.fails(NoSuchElementException.class, () -> v.length(serial), "length of file " + serial);
            c.misses(v, 0, "as nothing was remembered for file " + serial);
        }
    }

    /**
     * "The links of all kept pages, the leaders' hints, and the map's five bytes (USED 5) are put right", "the
     * entry's hint is put right".
     */
    private static void hintsAndLinks() {
        LabelledVolume v = Volumes.withFile(20);
        v.spoil(3, 3, 99);
        v.spoil(4, 3, 17);
        v.spoil(2, 1, 5);
        v.spoil(0, 3, 0);
        scavenge(v, 3, 0, 0, 0, 4);
        c.is(7, v.data(3, 3), "hint of the leader");
        c.is(3, v.data(4, 3), "hint in the entry");
        c.is(255, v.data(2, 1), "map");
        c.is(4, v.data(0, 3), "hint of the root's leader");
        v.open(1, 1);
        v.read(3, 0);
        v.read(3, 19);
        c.misses(v, 0, "with all put right");
    }

    /** "of several sectors with the same page the lowest one": of the leader, which has another name. */
    private static void lowestOfSeveral() {
        LabelledVolume v = Volumes.withFile(20);
        v.remove(1, 1);
        v.create(1, 1, false);
        Volumes.append(v, 3, 8);
        v.create(1, 2, false);
        v.remove(1, 1);
        v.ghost(6, 3);
        v.spoil(3, 1, 5);
        scavenge(v, 3, 1, 0, 1, 4);
        c.label(v, 3, 4, 0, 8, -1, -1);
        c.is(3, v.data(3, 3), "hint of the kept leader to itself");
        c.is(0, v.label(6, 0), "the higher one is lost");
        c.is(4, v.open(1, 5), "the kept one's name");
        c.fails(NoSuchElementException.class, () -> v.open(1, 2), "the lost one's name");
    }

    /** "up to the first page that is not there", "All other sectors with a serial become free: they are LOST." */
    private static void pagesBehindAGap() {
        LabelledVolume v = Volumes.withFile(32);
        v.scratch(6);
        scavenge(v, 3, 2, 0, 0, 5);
        c.is(8, v.length(3), "length up to the gap");
        c.label(v, 5, 3, 1, 8, -1, 3);
        c.is(0, v.label(7, 0), "page 3 is lost");
        c.is(0, v.label(8, 0), "page 4 is lost");
        c.is(-1, v.label(6, 0), "page 2 stays unreadable");
        c.is(128, v.data(2, 0), "the map says nothing of an unreadable sector");
        c.is(255, v.data(2, 1), "the map's second byte");
    }

    /** "or that comes behind a page (from 1 on) with less than 8 USED". */
    private static void pagesBehindAShortOne() {
        LabelledVolume v = Volumes.withFile(3);
        v.ghost(5, 30);
        Volumes.append(v, 3, 9);
        v.scratch(5);
        scavenge(v, 3, 1, 0, 0, 3);
        c.is(3, v.length(3), "length with a short page 1");
        c.is(30, v.label(3, 3), "NEXT of the leader");
        c.is(0, v.label(6, 0), "page 2 is lost");
    }

    /** The same: a page with 8 USED has pages behind it, one with 7 has none. */
    private static void pagesBehindSevenOrEight() {
        for (int used = 7; used <= 8; used++) {
            LabelledVolume v = Volumes.withFile(used);
            v.ghost(5, 30);
            Volumes.append(v, 3, 17 - used);
            v.scratch(5);
            boolean whole = used == 8;
            scavenge(v, 3, whole ? 0 : 2, 0, 0, 4);
            c.is(whole ? 17 : 7, v.length(3), "length with a page 1 of " + used + " bytes");
            c.is(whole ? 6 : -1, v.label(30, 3), "NEXT of page 1");
            c.is(whole ? 7 : 30, v.data(3, 3), "hint of the leader");
        }
    }

    /** "up to the first page that is not there": the leader alone is kept if that is page 1. */
    private static void leaderWithoutPageOne() {
        LabelledVolume v = Volumes.withFile(24);
        v.scratch(5);
        scavenge(v, 3, 2, 0, 0, 4);
        c.label(v, 3, 3, 0, 8, -1, -1);
        c.is(3, v.data(3, 3), "hint of the leader to itself");
        c.is(0, v.length(3), "length");
        c.is(3, v.open(1, 1), "open");
    }

    /** "of several sectors with the same page the lowest one": of page 1, that has other bytes. */
    private static void lowestOfSeveralPages() {
        LabelledVolume v = Volumes.withFiles(2);
        Volumes.append(v, 4, 16);
        v.remove(1, 1);
        // File 4 is in sector 5 with its pages in 6 and 7; sector 3 is free.
        c.is(true, v.ghost(6, 3), "ghost of page 1");
        v.spoil(3, 0, 99);
        c.is(true, v.ghost(7, 30), "ghost of page 2");
        v.spoil(30, 0, 98);
        scavenge(v, 3, 2, 0, 0, 5);
        c.is(99, v.read(4, 0), "byte of the lowest page 1");
        c.is(9, v.read(4, 8), "byte of the lowest page 2");
        c.label(v, 5, 4, 0, 8, 3, -1);
        c.label(v, 3, 4, 1, 8, 7, 5);
        c.label(v, 7, 4, 2, 8, -1, 3);
        c.is(0, v.label(6, 0), "the higher page 1 is lost");
        c.is(0, v.label(30, 0), "the higher page 2 is lost");
    }

    /** "If page 0 is not there, those from 1 on are kept likewise". */
    private static void headlessFileWithAGap() {
        LabelledVolume v = Volumes.withFile(32);
        v.scratch(3);
        v.scratch(7);
        scavenge(v, 3, 1, 1, 1, 4);
        c.is(16, v.length(3), "length up to the gap");
        c.label(v, 8, 3, 0, 8, 5, -1);
        c.label(v, 5, 3, 1, 8, 6, 8);
        c.label(v, 6, 3, 2, 8, -1, 5);

        LabelledVolume w = Volumes.withFile(3);
        w.ghost(5, 30);
        Volumes.append(w, 3, 9);
        w.scratch(3);
        w.scratch(5);
        scavenge(w, 3, 1, 1, 1, 4);
        c.is(3, w.length(3), "length up to a short page");
        c.is(0, w.label(7, 0), "serial of a sector that nobody has");
    }

    /** "All other sectors with a serial become free": all of a file that has neither page 0 nor page 1. */
    private static void onlyALaterPage() {
        LabelledVolume v = Volumes.withFile(16);
        v.scratch(3);
        v.scratch(5);
        scavenge(v, 2, 1, 0, 0, 3);
        c.is(0, v.label(6, 0), "page 2 is lost");
        c.data(v, 4, 0, 0, 0, 0);
    }

    /** "the lowest free sector becomes its leader (USED 8, name 10000 + serial, KIND 0, other data 0)". */
    private static void headlessFile() {
        LabelledVolume v = Volumes.withFile(20);
        v.scratch(3);
        scavenge(v, 3, 0, 1, 1, 4);
        c.label(v, 8, 3, 0, 8, 5, -1);
        c.data(v, 8, 39, 19, 0, 7, 0, 0, 0, 0);
        c.label(v, 5, 3, 1, 8, 6, 8);
        c.is(3, v.open(1, 10003), "open by the name that was made");
        c.is(20, v.length(3), "length");
        c.data(v, 4, 39, 19, 3, 8);
        c.label(v, 4, 1, 1, 4, -1, 0);
    }

    /** "name 10000 + serial, KIND 0, other data 0": what was a directory is none then. */
    private static void headlessDirectory() {
        LabelledVolume v = new LabelledVolume();
        v.create(1, 1, true);
        v.create(3, 2, false);
        v.scratch(3);
        // File 4 is in sector 5, the directory's page in 6.
        scavenge(v, 4, 0, 1, 2, 4);
        c.label(v, 7, 3, 0, 8, 6, -1);
        c.data(v, 7, 39, 19, 0, 6, 0, 0, 0, 0);
        c.is(4, v.read(3, 2), "a byte of what was an entry");
        c.is(3, v.open(1, 10003), "open of what was a directory");
        c.is(4, v.open(1, 2), "open of what was in it");
        c.fails(IllegalArgumentException.class, () -> v.open(3, 2), "open in it");
    }

    /** "if there is none, its pages are lost." */
    private static void headlessFileWithoutRoom() {
        LabelledVolume v = Volumes.withFile(24);
        v.scratch(3);
        Volumes.scratchFree(v, 0);
        scavenge(v, 2, 3, 0, 0, 5);
        c.is(3, v.state(2), "free sectors");
        c.data(v, 4, 0, 0, 0, 0);
        c.data(v, 2, 224, 0, 0, 0, 0);
        c.fails(NoSuchElementException.class, () -> v.length(3), "length of the lost file");
    }

    /** The same: with one free sector they are kept. */
    private static void headlessFileWithRoomForALeader() {
        LabelledVolume v = Volumes.withFile(24);
        v.scratch(3);
        Volumes.scratchFree(v, 1);
        scavenge(v, 3, 0, 1, 1, 4);
        c.is(0, v.state(2), "free sectors");
        c.is(24, v.length(3), "length");
    }

    /** "Each headless file from 3 on, by serials": 3 gets no leader, and its lost page becomes that of 4. */
    private static void headlessFilesBySerials() {
        LabelledVolume v = Volumes.withFile(8);
        v.create(1, 2, false);
        Volumes.append(v, 4, 8);
        v.scratch(3);
        v.scratch(6);
        Volumes.scratchFree(v, 0);
        scavenge(v, 3, 1, 1, 1, 4);
        c.label(v, 5, 4, 0, 8, 7, -1);
        c.data(v, 4, 39, 20, 4, 5, 0, 0, 0, 0);
        c.is(4, v.open(1, 10004), "open by the name that was made");
        c.fails(NoSuchElementException.class, () -> v.length(3), "length of the lost file");

        LabelledVolume w = Volumes.withFile(8);
        w.create(1, 2, false);
        Volumes.append(w, 4, 8);
        w.scratch(3);
        w.scratch(6);
        scavenge(w, 4, 0, 2, 2, 6);
        c.is(3, w.label(8, 0), "serial in the lowest free sector");
        c.is(4, w.label(9, 0), "serial in the next one");
    }

    /** "Then the root, if it has no leader: likewise". */
    private static void rootWithoutLeader() {
        LabelledVolume v = Volumes.withFile(0);
        v.scratch(0);
        scavenge(v, 3, 0, 1, 0, 3);
        c.label(v, 5, 1, 0, 8, 4, -1);
        c.data(v, 5, 0, 0, 1, 4, 0, 0, 0, 0);
        c.is(5, v.label(4, 4), "BEFORE of the root's page");
        c.is(3, v.open(1, 1), "open in the root");

        LabelledVolume w = Volumes.withFile(0);
        w.scratch(0);
        w.scratch(4);
        scavenge(w, 3, 0, 1, 1, 3);
        c.label(w, 5, 1, 0, 8, 6, -1);
        c.label(w, 6, 1, 1, 4, -1, 5);
        c.is(3, w.open(1, 1), "open of the adopted file");
    }

    /** "but if no sector is free its pages are lost first". */
    private static void rootWithoutLeaderAndRoom() {
        LabelledVolume v = Volumes.withFile(16);
        v.scratch(0);
        Volumes.scratchFree(v, 0);
        scavenge(v, 3, 1, 1, 0, 2);
        c.label(v, 4, 1, 0, 8, -1, -1);
        c.data(v, 4, 0, 0, 1, 4, 0, 0, 0, 0);
        c.is(16, v.length(3), "length of the file that could not be adopted");
        c.fails(NoSuchElementException.class, () -> v.open(1, 1), "open of it");
        v.shorten(3, 8);
        scavenge(v, 3, 0, 0, 1, 3);
        c.is(3, v.open(1, 1), "open when there was a sector for the entry");
    }

    /** The same: all of its pages, of which the lowest one becomes the leader. */
    private static void rootLosesAllItsPages() {
        LabelledVolume v = Volumes.withFiles(5);
        v.scratch(0);
        Volumes.scratchFree(v, 0);
        scavenge(v, 7, 3, 1, 4, 4);
        c.label(v, 4, 1, 0, 8, 7, -1);
        c.label(v, 7, 1, 1, 8, 10, 4);
        c.label(v, 10, 1, 2, 8, -1, 7);
        c.fails(NoSuchElementException.class, () -> v.open(1, 5), "open of the one that had no room");
        c.is(0, v.length(7), "length of it");
    }

    /** "If the root is not, (3) and (4) are left out." */
    private static void rootThatIsNotThere() {
        LabelledVolume v = new LabelledVolume();
        v.create(1, 1, true);
        v.create(3, 2, false);
        // Directory 3 is in sector 3 with its page in 6, file 4 in sector 5.
        v.spoil(6, 3, 99);
        v.spoil(5, 3, 99);
        v.spoil(2, 1, 9);
        v.scratch(0);
        v.scratch(4);
        Volumes.scratchFree(v, 0);
        scavenge(v, 3, 0, 0, 0, 2);
        c.data(v, 6, 0, 2, 4, 99);
        c.is(5, v.data(5, 3), "hint of a leader, which is put right");
        c.data(v, 2, 0, 0, 0, 0, 0);
        c.fails(NoSuchElementException.class, () -> v.length(1), "length of no root");
        c.is(4, v.open(3, 2), "open in a directory that nothing reaches");
    }

    /** The same: when a sector is free again the root is made. */
    private static void rootThatIsThereAgain() {
        LabelledVolume v = Volumes.withFile(24);
        v.scratch(0);
        v.scratch(4);
        Volumes.scratchFree(v, 0);
        scavenge(v, 2, 0, 0, 0, 1);
        v.shorten(3, 16);
        scavenge(v, 3, 0, 1, 0, 2);
        c.is(0, v.length(1), "length of a root without room for an entry");
        v.shorten(3, 8);
        scavenge(v, 3, 0, 0, 1, 3);
        c.is(3, v.open(1, 1), "open in the root");
    }

    /** "Each headless file ..", "Then the root ..", "then the map's leader ..": in this order while sectors last. */
    private static void leadersInOrder() {
        LabelledVolume none = withoutLeaders(0);
        scavenge(none, 2, 2, 2, 0, 3);
        c.label(none, 5, 1, 0, 8, 4, -1);
        c.label(none, 4, 1, 1, 4, -1, 5);
        c.label(none, 2, 2, 0, 8, -1, -1);

        LabelledVolume one = withoutLeaders(1);
        scavenge(one, 3, 2, 3, 0, 4);
        c.label(one, 6, 3, 0, 8, 5, -1);
        c.label(one, 4, 1, 0, 8, -1, -1);
        c.label(one, 2, 2, 0, 8, -1, -1);

        LabelledVolume two = withoutLeaders(2);
        scavenge(two, 3, 1, 3, 1, 5);
        c.label(two, 6, 3, 0, 8, 5, -1);
        c.label(two, 7, 1, 0, 8, 4, -1);
        c.label(two, 2, 2, 0, 8, -1, -1);

        LabelledVolume three = withoutLeaders(3);
        scavenge(three, 3, 0, 3, 1, 6);
        c.label(three, 6, 3, 0, 8, 5, -1);
        c.label(three, 7, 1, 0, 8, 4, -1);
        c.label(three, 8, 2, 0, 8, 2, -1);
        c.label(three, 2, 2, 1, 5, -1, 8);
    }

    /** The root, the map and file 3 have a page each, in 4, 2 and 5, and no leader. */
    private static LabelledVolume withoutLeaders(int free) {
        LabelledVolume v = Volumes.withFile(8);
        v.scratch(0);
        v.scratch(1);
        v.scratch(3);
        Volumes.scratchFree(v, free);
        return v;
    }

    /** "then the map's leader likewise, and then, if it is not there, the map's page". */
    private static void mapWithoutLeaderOrPage() {
        LabelledVolume v = Volumes.withFile(0);
        v.scratch(2);
        scavenge(v, 3, 0, 0, 0, 2);
        c.label(v, 5, 2, 1, 5, -1, 1);
        c.data(v, 5, 192, 255, 255, 255, 255, 0, 0, 0);
        c.label(v, 1, 2, 0, 8, 5, -1);
        c.is(5, v.data(1, 3), "hint of the map's leader");

        LabelledVolume w = Volumes.withFile(0);
        w.scratch(1);
        scavenge(w, 3, 0, 1, 0, 2);
        c.label(w, 5, 2, 0, 8, 2, -1);
        c.data(w, 5, 0, 0, 0, 2, 0, 0, 0, 0);
        c.label(w, 2, 2, 1, 5, -1, 5);

        LabelledVolume x = Volumes.withFile(0);
        x.scratch(1);
        x.scratch(2);
        x.scratch(0);
        scavenge(x, 3, 0, 2, 0, 4);
        c.label(x, 5, 1, 0, 8, 4, -1);
        c.label(x, 6, 2, 0, 8, 7, -1);
        c.label(x, 7, 2, 1, 5, -1, 6);
        c.data(x, 7, 0, 255, 255, 255, 255);
    }

    /** "then the map's leader likewise, and then, if it is not there, the map's page (if a sector is free)". */
    private static void mapWithoutRoom() {
        LabelledVolume v = Volumes.withFile(8);
        v.scratch(1);
        Volumes.scratchFree(v, 0);
        scavenge(v, 3, 1, 1, 0, 1);
        c.label(v, 2, 2, 0, 8, -1, -1);
        c.data(v, 2, 0, 0, 0, 2, 0, 0, 0, 0);
        c.is(0, v.length(2), "length of a map without its page");

        LabelledVolume w = Volumes.withFile(8);
        w.scratch(2);
        Volumes.scratchFree(w, 0);
        scavenge(w, 3, 0, 0, 0, 1);
        c.label(w, 1, 2, 0, 8, -1, -1);
        c.is(1, w.data(1, 3), "hint of the map's leader to itself");

        LabelledVolume x = Volumes.withFile(8);
        x.scratch(1);
        x.scratch(2);
        Volumes.scratchFree(x, 0);
        scavenge(x, 2, 0, 0, 0, 0);
        c.fails(NoSuchElementException.class, () -> x.length(2), "length of no map");
        x.shorten(3, 0);
        scavenge(x, 3, 0, 1, 0, 1);
        c.label(x, 5, 2, 0, 8, -1, -1);
    }

    /** The same: with one free sector it has its leader or its page, with two it has both. */
    private static void mapWithLittleRoom() {
        LabelledVolume v = Volumes.withFile(8);
        v.scratch(1);
        v.scratch(2);
        Volumes.scratchFree(v, 1);
        scavenge(v, 3, 0, 1, 0, 1);
        c.label(v, 6, 2, 0, 8, -1, -1);

        LabelledVolume w = Volumes.withFile(8);
        w.scratch(2);
        Volumes.scratchFree(w, 1);
        scavenge(w, 3, 0, 0, 0, 2);
        c.label(w, 6, 2, 1, 5, -1, 1);
        c.data(w, 6, 0, 0, 0, 0, 0, 0, 0, 0);

        LabelledVolume x = Volumes.withFile(8);
        x.scratch(1);
        x.scratch(2);
        Volumes.scratchFree(x, 2);
        scavenge(x, 3, 0, 1, 0, 2);
        c.label(x, 6, 2, 0, 8, 7, -1);
        c.label(x, 7, 2, 1, 5, -1, 6);
    }

    /**
     * "one COUNTS if its serial is 3 or above, that file is there, its leader has that name, and it was not REACHED
     * yet".
     */
    private static void entriesThatDoNotCount() {
        LabelledVolume v = new LabelledVolume();
        for (int name = 1; name <= 7; name++) {
            v.create(1, name, false);
        }
        // Entries 0 .. 6 are in the sectors 4, 4, 7, 7, 10, 10 and 13.
        v.spoil(4, 2, 1);
        v.spoil(4, 6, 2);
        v.spoil(7, 2, 61);
        v.spoil(7, 6, 60);
        v.spoil(10, 1, 99);
        v.spoil(10, 6, 0);
        scavenge(v, 9, 0, 0, 6, 3);
        int[] serials = {3, 4, 5, 6, 7, 8, 9};
        for (int k = 0; k < serials.length; k++) {
            c.is(serials[k], v.entry(1, k, 1), "serial in entry " + k);
            c.is(k + 1, v.entry(1, k, 0), "name in entry " + k);
        }

        LabelledVolume w = Volumes.withFile(0);
        w.scratch(3);
        scavenge(w, 2, 0, 0, 0, 1);
        c.data(w, 4, 0, 0, 0, 0);
        w.spoil(4, 1, 8);
        w.spoil(4, 3, 8);
        scavenge(w, 2, 0, 0, 0, 1);
        c.data(w, 4, 0, 0, 0, 0);
    }

    /** "its serial is 3 or above, that file is there, its leader has that name": each of them alone. */
    private static void oneReasonNotToCount() {
        // What is spoilt of the entry for file 3, that is in 0 .. 3 of sector 4: its name, its serial, its sector.
        int[][] wrong = {{0, 1}, {1, 0}, {1, 2}, {1, 255}, {2, 0}, {2, 1}, {2, 2}, {2, 4}, {2, 60}, {2, 61}, {2, 255}};
        for (int[] spoilt : wrong) {
            LabelledVolume v = Volumes.withFile(0);
            v.spoil(4, spoilt[0], spoilt[1]);
            scavenge(v, 3, 0, 0, 1, 1);
            c.data(v, 4, 0, 1, 3, 3, 0, 0, 0, 0);
        }
        LabelledVolume w = Volumes.withFile(0);
        w.spoil(4, 3, 255);
        scavenge(w, 3, 0, 0, 0, 1);
        c.data(w, 4, 0, 1, 3, 3, 0, 0, 0, 0);
    }

    /** "its serial is 3 or above": also if the name is the 0 that the leaders of the root and the map have. */
    private static void entriesForTheRootAndTheMap() {
        int[][] entries = {{1, 0}, {2, 1}, {61, 0}, {255, 0}};
        for (int[] entry : entries) {
            LabelledVolume v = Volumes.withFile(0);
            v.create(1, 2, false);
            v.spoil(4, 1, 0);
            v.spoil(4, 2, entry[0]);
            v.spoil(4, 3, entry[1]);
            scavenge(v, 4, 0, 0, 1, 1);
            c.data(v, 4, 0, 1, 3, 3, 0, 2, 4, 5);
        }
    }

    /** The same: also a name that create() refuses is that name. */
    private static void namesThatAgree() {
        int[][] names = {{0, 0}, {39, 16}, {255, 255}};
        for (int[] name : names) {
            LabelledVolume v = Volumes.withFile(0);
            for (int i = 0; i < 2; i++) {
                v.spoil(3, i, name[i]);
                v.spoil(4, i, name[i]);
            }
            scavenge(v, 3, 0, 0, 0, 0);
            c.data(v, 3, name[0], name[1], 0, 3);
            c.data(v, 4, name[0], name[1], 3, 3);
        }
    }

    /** "Others become holes", "a HOLE (all 0)": also what has the serial 0 and other bytes. */
    private static void holesAreAllZero() {
        LabelledVolume v = Volumes.withFiles(2);
        v.remove(1, 1);
        v.remove(1, 2);
        for (int i = 0; i < 8; i++) {
            v.spoil(4, i, i % 4 == 2 ? 0 : 9);
        }
        scavenge(v, 2, 0, 0, 0, 1);
        c.data(v, 4, 0, 0, 0, 0, 0, 0, 0, 0);
        c.is(8, v.label(4, 2), "USED of the root's page");
    }

    /** "its entries": bytes that are no whole entry are left, and so is a directory that has none. */
    private static void bytesThatAreNoEntry() {
        LabelledVolume v = Volumes.withFile(7);
        v.spoil(3, 2, 1);
        scavenge(v, 3, 0, 0, 0, 1);
        c.data(v, 5, 0, 0, 0, 0, 5, 6, 7, 0);
        c.is(7, v.label(5, 2), "USED of the page");

        LabelledVolume w = Volumes.withFile(0);
        w.create(1, 2, true);
        scavenge(w, 4, 0, 0, 0, 0);
        c.is(0, w.length(4), "length of a directory without entries");
    }

    /** "and it was not REACHED yet": the first entry counts. */
    private static void entriesForOneFileTwice() {
        LabelledVolume v = Volumes.withFile(0);
        v.create(1, 2, false);
        v.spoil(4, 5, 1);
        v.spoil(4, 6, 3);
        scavenge(v, 4, 0, 0, 1, 1);
        c.data(v, 4, 0, 1, 3, 3, 0, 2, 4, 5);
    }

    /** "and if it is a directory that is walked now": file 5 is in directory 3 and, further behind, in the root. */
    private static void directoriesAreWalkedAtOnce() {
        LabelledVolume v = new LabelledVolume();
        v.create(1, 1, true);
        v.create(1, 2, false);
        v.create(3, 5, false);
        c.data(v, 7, 0, 5, 5, 6);
        v.spoil(4, 5, 5);
        v.spoil(4, 6, 5);
        scavenge(v, 5, 0, 0, 1, 1);
        c.is(5, v.open(3, 5), "open in the directory");
        c.is(4, v.open(1, 2), "open of the file that lost its entry");
        c.fails(NoSuchElementException.class, () -> v.open(1, 5), "open in the root");
    }

    /** As many directories, each in the one before, as the volume can hold. */
    private static void deepDirectories() {
        LabelledVolume v = new LabelledVolume();
        int dir = 1;
        while (v.state(2) >= 2) {
            dir = v.create(dir, 5, true);
        }
        c.is(20, dir, "the deepest directory");
        int page = v.data(v.data(0, 3), 3);
        for (int sector = 3; sector < 40; sector++) {
            if (v.label(sector, 1) == 1) {
                v.spoil(sector, 3, 255);
            }
        }
        scavenge(v, 20, 0, 0, 0, 18);
        c.is(page, v.data(v.data(0, 3), 3), "hint in the root's entry");
        for (int d = 3; d < dir; d++) {
            c.is(d + 1, v.open(d, 5), "open in directory " + d);
        }
        c.misses(v, 0, "with all put right");
    }

    /** "the map's five bytes (USED 5) are put right": each bit of them, from wrong either way. */
    private static void eachBitOfTheMap() {
        int[] wrong = {0, 255, 0x55};
        for (int bits : wrong) {
            LabelledVolume v = Volumes.withFile(9);
            v.scratch(12);
            v.scratch(39);
            v.ghost(5, 20);
            for (int k = 0; k < 5; k++) {
                v.spoil(2, k, bits);
            }
            scavenge(v, 3, 1, 0, 0, 2);
            c.data(v, 2, 128, 239, 255, 255, 127, 0, 0, 0);
            c.label(v, 2, 2, 1, 5, -1, 1);
        }
    }

    /** "Each sector that is other than it was before counts as written once": also one that was lost first. */
    private static void countedOnce() {
        LabelledVolume v = Volumes.withFile(8);
        v.scratch(3);
        v.scratch(6);
        v.ghost(5, 7);
        for (int sector = 8; sector < 40; sector++) {
            v.scratch(sector);
        }
        // Sector 7, the ghost of page 1, is lost and becomes the leader.
        scavenge(v, 3, 1, 1, 1, 4);
        c.label(v, 7, 3, 0, 8, 5, -1);
    }

    /** The same: one that is lost, and is then other in nothing but its serial. */
    private static void otherInTheSerialAlone() {
        LabelledVolume v = new LabelledVolume();
        v.create(1, 1, true);
        v.ghost(3, 20);
        v.spoil(20, 1, 0);
        v.spoil(20, 3, 20);
        v.scratch(0);
        v.scratch(4);
        Volumes.scratchFree(v, 0);
        for (int k = 0; k < 5; k++) {
            v.spoil(2, k, 0);
        }
        c.label(v, 20, 3, 0, 8, -1, -1);
        c.data(v, 20, 0, 0, 1, 20, 0, 0, 0, 0);
        scavenge(v, 3, 1, 1, 0, 1);
        c.label(v, 20, 1, 0, 8, -1, -1);
        c.data(v, 20, 0, 0, 1, 20, 0, 0, 0, 0);
    }

    /** "the map's five bytes": the others are left. */
    private static void fiveBytesOfTheMap() {
        LabelledVolume v = new LabelledVolume();
        v.spoil(2, 5, 9);
        scavenge(v, 2, 0, 0, 0, 0);
        c.is(9, v.data(2, 5), "the byte behind the map's five");
    }

    /**
     * "These have the names 0, KINDS 1 and 0 then.": each of the three bytes alone, then all; those behind are left.
     */
    private static void spoiltNameAndKindOfTheMap() {
        for (int i = 0; i < 3; i++) {
            LabelledVolume v = new LabelledVolume();
            v.spoil(1, i, 1);
            scavenge(v, 2, 0, 0, 0, 1);
            c.data(v, 1, 0, 0, 0, 2, 0, 0, 0, 0);
        }
        LabelledVolume w = Volumes.withFile(0);
        for (int i = 0; i < 8; i++) {
            w.spoil(1, i, 200 + i);
        }
        scavenge(w, 3, 0, 0, 0, 1);
        c.data(w, 1, 0, 0, 0, 2, 204, 205, 206, 207);
        c.label(w, 1, 2, 0, 8, 2, -1);

        LabelledVolume full = Volumes.withFile(0);
        full.scratch(2);
        full.spoil(1, 2, 1);
        Volumes.scratchFree(full, 0);
        scavenge(full, 3, 0, 0, 0, 1);
        c.data(full, 1, 0, 0, 0, 1);
    }

    /** The same, of the root. */
    private static void spoiltNameAndKindOfTheRoot() {
        int[] spoilt = {7, 7, 0};
        for (int i = 0; i < 3; i++) {
            LabelledVolume v = new LabelledVolume();
            v.spoil(0, i, spoilt[i]);
            scavenge(v, 2, 0, 0, 0, 1);
            c.data(v, 0, 0, 0, 1, 0, 0, 0, 0, 0);
        }
        LabelledVolume w = Volumes.withFile(0);
        for (int i = 0; i < 8; i++) {
            w.spoil(0, i, 200 + i);
        }
        scavenge(w, 3, 0, 0, 0, 1);
        c.data(w, 0, 0, 0, 1, 4, 204, 205, 206, 207);
        c.is(3, w.open(1, 1), "open in the root");
    }

    /** The sector that stands in for an unreadable leader has what was spoilt in it put right. */
    private static void spoiltLeaderThatIsAGhost() {
        LabelledVolume v = new LabelledVolume();
        v.ghost(0, 20);
        v.ghost(1, 21);
        v.scratch(0);
        v.scratch(1);
        v.spoil(20, 1, 9);
        v.spoil(20, 2, 9);
        v.spoil(21, 0, 9);
        v.spoil(21, 2, 1);
        scavenge(v, 2, 0, 0, 0, 3);
        c.data(v, 20, 0, 0, 1, 20);
        c.data(v, 21, 0, 0, 0, 2);
    }

    /** From file 3 on nothing says what the KIND was: it is left, and the name is what counts. */
    private static void spoiltLeaderOfAPlainFile() {
        LabelledVolume v = Volumes.withFile(0);
        v.spoil(3, 1, 9);
        v.spoil(3, 2, 7);
        scavenge(v, 3, 0, 0, 1, 1);
        c.data(v, 3, 0, 9, 7, 3);
        c.is(3, v.open(1, 9), "open by the name in the leader");
    }
}
