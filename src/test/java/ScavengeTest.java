import java.util.NoSuchElementException;

/** Promise 10: scavenge, and promise 18 with it: what it reports. */
public final class ScavengeTest {
    private static final Check c = new Check();

    public static void main(String[] args) {
        nothingToDo();
        powerAndMemory();
        hintsAndLinks();
        lowestOfSeveral();
        pagesBehindAGap();
        pagesBehindAShortOne();
        onlyALaterPage();
        headlessFile();
        headlessFileWithoutRoom();
        headlessFilesBySerials();
        rootWithoutLeader();
        rootWithoutLeaderAndRoom();
        rootThatIsNotThere();
        mapWithoutLeaderOrPage();
        mapWithoutRoom();
        entriesThatDoNotCount();
        entriesForOneFileTwice();
        directoriesAreWalkedAtOnce();
        deepDirectories();
        fiveBytesOfTheMap();
        spoiltNameAndKindOfTheMap();
        spoiltNameAndKindOfTheRoot();
        spoiltLeaderThatIsAGhost();
        spoiltLeaderOfAPlainFile();
        c.end();
    }

    /** Scavenges: files there, sectors lost, leaders made, files adopted, sectors written. */
    private static void scavenge(LabelledVolume v, int files, int lost, int made, int adopted, int written) {
        int before = v.state(1);
        c.is(files, v.scavenge(), "scavenge");
        int[] due = {files, lost, made, adopted, written};
        for (int what = 0; what < due.length; what++) {
            c.is(due[what], v.report(what), "report(" + what + ")");
        }
        c.written(v, before + written, "in all");
        String after = Volumes.picture(v);
        c.is(files, v.scavenge(), "scavenge again");
        c.is(0, v.report(4), "sectors written by scavenging again");
        c.is(true, after.equals(Volumes.picture(v)), "scavenging again changes nothing");
    }

    private static void nothingToDo() {
        scavenge(new LabelledVolume(), 2, 0, 0, 0, 0);
        LabelledVolume v = Volumes.withFile(20);
        v.create(1, 2, true);
        v.create(4, 3, false);
        v.shorten(3, 2);
        v.remove(4, 3);
        scavenge(v, 4, 0, 0, 0, 0);
        c.misses(v, 0, "by scavenging");
    }

    private static void powerAndMemory() {
        LabelledVolume v = Volumes.withFile(8);
        v.charge(1);
        c.fails(UnsupportedOperationException.class, () -> v.write(3, 8, 9), "write with charge 1");
        scavenge(v, 3, 0, 0, 0, 3);
        c.is(1, v.state(4), "power");
        c.is(9, v.length(3), "length with the page that was written");
        c.is(9, v.read(3, 8), "the byte in it");
        c.label(v, 5, 3, 1, 8, 6, 3);
        Volumes.append(v, 3, 20);
        c.is(29, v.length(3), "length, without a charge");

        v.charge(1);
        v.scavenge();
        Volumes.append(v, 3, 20);
        c.is(1, v.state(4), "power, as the charge is gone");

        LabelledVolume w = Volumes.withFile(0);
        w.ghost(3, 30);
        w.scavenge();
        w.ghost(3, 30);
        w.scratch(3);
        c.is(0, w.length(3), "length by the ghost");
        c.misses(w, 1, "of its hint, not of a remembered leader");
    }

    private static void hintsAndLinks() {
        LabelledVolume v = Volumes.withFile(20);
        v.spoil(3, 3, 99);
        v.spoil(4, 3, 17);
        v.spoil(2, 1, 5);
        v.spoil(0, 3, 0);
        scavenge(v, 3, 0, 0, 0, 4);
        c.is(7, v.data(3, 3), "hint of the leader");
        c.is(3, v.data(4, 3), "hint in the entry");
        c.is(255, v.data(2, 1), "map");
        c.is(4, v.data(0, 3), "hint of the root's leader");
        v.open(1, 1);
        v.read(3, 0);
        v.read(3, 19);
        c.misses(v, 0, "with all put right");
    }

    private static void lowestOfSeveral() {
        LabelledVolume v = Volumes.withFile(20);
        v.remove(1, 1);
        v.create(1, 1, false);
        Volumes.append(v, 3, 8);
        v.create(1, 2, false);
        v.remove(1, 1);
        v.ghost(6, 3);
        v.spoil(3, 1, 5);
        scavenge(v, 3, 1, 0, 1, 4);
        c.label(v, 3, 4, 0, 8, -1, -1);
        c.is(3, v.data(3, 3), "hint of the kept leader to itself");
        c.is(0, v.label(6, 0), "the higher one is lost");
        c.is(4, v.open(1, 5), "the kept one's name");
        c.fails(NoSuchElementException.class, () -> v.open(1, 2), "the lost one's name");
    }

    private static void pagesBehindAGap() {
        LabelledVolume v = Volumes.withFile(32);
        v.scratch(6);
        scavenge(v, 3, 2, 0, 0, 5);
        c.is(8, v.length(3), "length up to the gap");
        c.label(v, 5, 3, 1, 8, -1, 3);
        c.is(0, v.label(7, 0), "page 3 is lost");
        c.is(0, v.label(8, 0), "page 4 is lost");
        c.is(-1, v.label(6, 0), "page 2 stays unreadable");
        c.is(128, v.data(2, 0), "the map says nothing of an unreadable sector");
        c.is(255, v.data(2, 1), "the map's second byte");
    }

    private static void pagesBehindAShortOne() {
        LabelledVolume v = Volumes.withFile(3);
        v.ghost(5, 30);
        Volumes.append(v, 3, 9);
        v.scratch(5);
        scavenge(v, 3, 1, 0, 0, 3);
        c.is(3, v.length(3), "length with a short page 1");
        c.is(30, v.label(3, 3), "NEXT of the leader");
        c.is(0, v.label(6, 0), "page 2 is lost");
    }

    private static void onlyALaterPage() {
        LabelledVolume v = Volumes.withFile(16);
        v.scratch(3);
        v.scratch(5);
        scavenge(v, 2, 1, 0, 0, 3);
        c.is(0, v.label(6, 0), "page 2 is lost");
        c.data(v, 4, 0, 0, 0, 0);
    }

    private static void headlessFile() {
        LabelledVolume v = Volumes.withFile(20);
        v.scratch(3);
        scavenge(v, 3, 0, 1, 1, 4);
        c.label(v, 8, 3, 0, 8, 5, -1);
        c.data(v, 8, 39, 19, 0, 7, 0, 0, 0, 0);
        c.label(v, 5, 3, 1, 8, 6, 8);
        c.is(3, v.open(1, 10003), "open by the name that was made");
        c.is(20, v.length(3), "length");
        c.data(v, 4, 39, 19, 3, 8);
        c.label(v, 4, 1, 1, 4, -1, 0);
    }

    private static void headlessFileWithoutRoom() {
        LabelledVolume v = Volumes.full();
        v.scratch(3);
        scavenge(v, 2, 35, 0, 0, 37);
        c.is(35, v.state(2), "free sectors");
        c.data(v, 4, 0, 0, 0, 0);
        c.data(v, 2, 224, 255, 255, 255, 255);
    }

    /** File 3 gets no leader: its lost page becomes that of file 4. */
    private static void headlessFilesBySerials() {
        LabelledVolume v = Volumes.withFile(8);
        v.create(1, 2, false);
        Volumes.append(v, 4, 8);
        v.create(1, 3, false);
        Volumes.append(v, 5, 8 * v.state(2));
        c.is(0, v.state(2), "free sectors");
        v.scratch(3);
        v.scratch(6);
        scavenge(v, 4, 1, 1, 1, 3);
        c.label(v, 5, 4, 0, 8, 7, -1);
        c.is(4, v.open(1, 10004), "open by the name that was made");
        c.fails(NoSuchElementException.class, () -> v.length(3), "length of the lost file");
    }

    private static void rootWithoutLeader() {
        LabelledVolume v = Volumes.withFile(0);
        v.scratch(0);
        scavenge(v, 3, 0, 1, 0, 3);
        c.label(v, 5, 1, 0, 8, 4, -1);
        c.data(v, 5, 0, 0, 1, 4, 0, 0, 0, 0);
        c.is(5, v.label(4, 4), "BEFORE of the root's page");
        c.is(3, v.open(1, 1), "open in the root");

        LabelledVolume w = Volumes.withFile(0);
        w.scratch(0);
        w.scratch(4);
        scavenge(w, 3, 0, 1, 1, 3);
        c.label(w, 5, 1, 0, 8, 6, -1);
        c.label(w, 6, 1, 1, 4, -1, 5);
        c.is(3, w.open(1, 1), "open of the adopted file");
    }

    private static void rootWithoutLeaderAndRoom() {
        LabelledVolume v = Volumes.full();
        v.scratch(0);
        scavenge(v, 3, 1, 1, 0, 1);
        c.label(v, 4, 1, 0, 8, -1, -1);
        c.data(v, 4, 0, 0, 1, 4, 0, 0, 0, 0);
        c.is(280, v.length(3), "length of the file that could not be adopted");
        c.fails(NoSuchElementException.class, () -> v.open(1, 1), "open of it");
        v.shorten(3, 272);
        scavenge(v, 3, 0, 0, 1, 3);
        c.is(3, v.open(1, 1), "open when there was a sector for the entry");
    }

    private static void rootThatIsNotThere() {
        LabelledVolume v = Volumes.full();
        v.scratch(0);
        v.scratch(4);
        v.spoil(2, 0, 255);
        scavenge(v, 2, 0, 0, 0, 1);
        c.is(0, v.data(2, 0), "the map is put right all the same");
        c.fails(NoSuchElementException.class, () -> v.length(1), "length of no root");
        v.shorten(3, 272);
        scavenge(v, 3, 0, 1, 0, 2);
        c.is(0, v.length(1), "length of a root without room for an entry");
    }

    private static void mapWithoutLeaderOrPage() {
        LabelledVolume v = Volumes.withFile(0);
        v.scratch(2);
        scavenge(v, 3, 0, 0, 0, 2);
        c.label(v, 5, 2, 1, 5, -1, 1);
        c.data(v, 5, 192, 255, 255, 255, 255, 0, 0, 0);
        c.label(v, 1, 2, 0, 8, 5, -1);
        c.is(5, v.data(1, 3), "hint of the map's leader");

        LabelledVolume w = Volumes.withFile(0);
        w.scratch(1);
        scavenge(w, 3, 0, 1, 0, 2);
        c.label(w, 5, 2, 0, 8, 2, -1);
        c.data(w, 5, 0, 0, 0, 2, 0, 0, 0, 0);
        c.label(w, 2, 2, 1, 5, -1, 5);

        LabelledVolume x = Volumes.withFile(0);
        x.scratch(1);
        x.scratch(2);
        x.scratch(0);
        scavenge(x, 3, 0, 2, 0, 4);
        c.label(x, 5, 1, 0, 8, 4, -1);
        c.label(x, 6, 2, 0, 8, 7, -1);
        c.label(x, 7, 2, 1, 5, -1, 6);
        c.data(x, 7, 0, 255, 255, 255, 255);
    }

    private static void mapWithoutRoom() {
        LabelledVolume v = Volumes.full();
        v.scratch(1);
        scavenge(v, 3, 1, 1, 0, 1);
        c.label(v, 2, 2, 0, 8, -1, -1);
        c.data(v, 2, 0, 0, 0, 2, 0, 0, 0, 0);
        c.is(0, v.length(2), "length of a map without its page");

        LabelledVolume w = Volumes.full();
        w.scratch(2);
        scavenge(w, 3, 0, 0, 0, 1);
        c.label(w, 1, 2, 0, 8, -1, -1);
    }

    private static void entriesThatDoNotCount() {
        LabelledVolume v = new LabelledVolume();
        for (int name = 1; name <= 7; name++) {
            v.create(1, name, false);
        }
        // Entries 0 .. 6 are in the sectors 4, 4, 7, 7, 10, 10 and 13.
        v.spoil(4, 2, 1);
        v.spoil(4, 6, 2);
        v.spoil(7, 2, 61);
        v.spoil(7, 6, 60);
        v.spoil(10, 1, 99);
        v.spoil(10, 6, 0);
        scavenge(v, 9, 0, 0, 6, 3);
        int[] serials = {3, 4, 5, 6, 7, 8, 9};
        for (int k = 0; k < serials.length; k++) {
            c.is(serials[k], v.entry(1, k, 1), "serial in entry " + k);
            c.is(k + 1, v.entry(1, k, 0), "name in entry " + k);
        }

        LabelledVolume w = Volumes.withFile(0);
        w.scratch(3);
        scavenge(w, 2, 0, 0, 0, 1);
        c.data(w, 4, 0, 0, 0, 0);
        w.spoil(4, 1, 8);
        w.spoil(4, 3, 8);
        scavenge(w, 2, 0, 0, 0, 1);
        c.data(w, 4, 0, 0, 0, 0);
    }

    private static void entriesForOneFileTwice() {
        LabelledVolume v = Volumes.withFile(0);
        v.create(1, 2, false);
        v.spoil(4, 5, 1);
        v.spoil(4, 6, 3);
        scavenge(v, 4, 0, 0, 1, 1);
        c.data(v, 4, 0, 1, 3, 3, 0, 2, 4, 5);
    }

    /** File 5 is in directory 3 and, further behind, in the root: the first one that is come to counts. */
    private static void directoriesAreWalkedAtOnce() {
        LabelledVolume v = new LabelledVolume();
        v.create(1, 1, true);
        v.create(1, 2, false);
        v.create(3, 5, false);
        c.data(v, 7, 0, 5, 5, 6);
        v.spoil(4, 5, 5);
        v.spoil(4, 6, 5);
        scavenge(v, 5, 0, 0, 1, 1);
        c.is(5, v.open(3, 5), "open in the directory");
        c.is(4, v.open(1, 2), "open of the file that lost its entry");
        c.fails(NoSuchElementException.class, () -> v.open(1, 5), "open in the root");
    }

    /** As many directories, each in the one before, as the volume can hold. */
    private static void deepDirectories() {
        LabelledVolume v = new LabelledVolume();
        int dir = 1;
        while (v.state(2) >= 2) {
            dir = v.create(dir, 5, true);
        }
        c.is(20, dir, "the deepest directory");
        int page = v.data(v.data(0, 3), 3);
        for (int sector = 3; sector < 40; sector++) {
            if (v.label(sector, 1) == 1) {
                v.spoil(sector, 3, 255);
            }
        }
        scavenge(v, 20, 0, 0, 0, 18);
        c.is(page, v.data(v.data(0, 3), 3), "hint in the root's entry");
        for (int d = 3; d < dir; d++) {
            c.is(d + 1, v.open(d, 5), "open in directory " + d);
        }
        c.misses(v, 0, "with all put right");
    }

    private static void fiveBytesOfTheMap() {
        LabelledVolume v = new LabelledVolume();
        v.spoil(2, 5, 9);
        scavenge(v, 2, 0, 0, 0, 0);
        c.is(9, v.data(2, 5), "the byte behind the map's five");
    }

    /** Each of the three bytes alone, then all of them; the data behind them is not the scavenger's. */
    private static void spoiltNameAndKindOfTheMap() {
        for (int i = 0; i < 3; i++) {
            LabelledVolume v = new LabelledVolume();
            v.spoil(1, i, 1);
            scavenge(v, 2, 0, 0, 0, 1);
            c.data(v, 1, 0, 0, 0, 2, 0, 0, 0, 0);
        }
        LabelledVolume w = Volumes.withFile(0);
        for (int i = 0; i < 8; i++) {
            w.spoil(1, i, 200 + i);
        }
        scavenge(w, 3, 0, 0, 0, 1);
        c.data(w, 1, 0, 0, 0, 2, 204, 205, 206, 207);
        c.label(w, 1, 2, 0, 8, 2, -1);

        LabelledVolume full = Volumes.full();
        full.scratch(2);
        full.spoil(1, 2, 1);
        scavenge(full, 3, 0, 0, 0, 1);
        c.data(full, 1, 0, 0, 0, 1);
    }

    private static void spoiltNameAndKindOfTheRoot() {
        int[] spoilt = {7, 7, 0};
        for (int i = 0; i < 3; i++) {
            LabelledVolume v = new LabelledVolume();
            v.spoil(0, i, spoilt[i]);
            scavenge(v, 2, 0, 0, 0, 1);
            c.data(v, 0, 0, 0, 1, 0, 0, 0, 0, 0);
        }
        LabelledVolume w = Volumes.withFile(0);
        for (int i = 0; i < 8; i++) {
            w.spoil(0, i, 200 + i);
        }
        scavenge(w, 3, 0, 0, 0, 1);
        c.data(w, 0, 0, 0, 1, 4, 204, 205, 206, 207);
        c.is(3, w.open(1, 1), "open in the root");
    }

    /** The sector that stands in for an unreadable leader has what was spoilt in it put right. */
    private static void spoiltLeaderThatIsAGhost() {
        LabelledVolume v = new LabelledVolume();
        v.ghost(0, 20);
        v.ghost(1, 21);
        v.scratch(0);
        v.scratch(1);
        v.spoil(20, 1, 9);
        v.spoil(20, 2, 9);
        v.spoil(21, 0, 9);
        v.spoil(21, 2, 1);
        scavenge(v, 2, 0, 0, 0, 3);
        c.data(v, 20, 0, 0, 1, 20);
        c.data(v, 21, 0, 0, 0, 2);
    }

    /** From file 3 on nothing says what the KIND was: it is left, and the name is what counts. */
    private static void spoiltLeaderOfAPlainFile() {
        LabelledVolume v = Volumes.withFile(0);
        v.spoil(3, 1, 9);
        v.spoil(3, 2, 7);
        scavenge(v, 3, 0, 0, 1, 1);
        c.data(v, 3, 0, 9, 7, 3);
        c.is(3, v.open(1, 9), "open by the name in the leader");
    }
}
