import java.util.NoSuchElementException;

/** FINDING: looking at a sector, searching, leaders, the pages behind and ahead, the last page, the END. */
public final class FindingTest {
    private static final Check c = new Check();

    public static void main(String[] args) {
        lookingAtASector();
        searchingForALeader();
        searchingForAPage();
        rememberedLeaderIsLookedAt();
        missedLeaderIsSearched();
        noLeaderIsRemembered();
        nextToAFreeSector();
        nextToAnotherFile();
        nextToAnotherPage();
        nextToALowerPage();
        nextThatIsNone();
        brokenBehindNone();
        pageAhead();
        brokenAhead();
        hintOfTheLastPage();
        hintsOfTheRootAndTheMap();
        goneThroughUpToNone();
        lengthOfALeader();
        lengthUpToTheLastPage();
        lastPageIsNotGoneTo();
        otherPagesAreGoneTo();
        pagesAboveTheNumberOfSectors();
        entriesUpToTheEnd();
        entriesNeedNoHintOfTheLastPage();
        c.end();
    }

    /** "it is that, if its label says s and p; if not, or if there is no such sector, this is a MISS." */
    private static void lookingAtASector() {
        // Of file 3, that is in sector 3: another leader, its own page, a free sector, an unreadable one, and none.
        int[] sectors = {3, 0, 1, 6, 5, 4, 7, 39, 30, 40, 41, 255};
        for (int sector : sectors) {
            LabelledVolume v = Volumes.withFile(8);
            v.create(1, 2, false);
            v.scratch(30);
            v.spoil(4, 3, sector);
            c.is(3, v.open(1, 1), "open with the hint " + sector);
            c.misses(v, sector == 3 ? 0 : 1, "of the hint " + sector);
        }
    }

    /** "SEARCHING: the lowest sector whose label says s and p." */
    private static void searchingForALeader() {
        LabelledVolume v = Volumes.withFile(0);
        v.ghost(3, 30);
        v.ghost(3, 20);
        v.ghost(3, 39);
        v.scratch(3);
        v.spoil(20, 3, 20);
        v.write(3, 0, 1);
        c.is(5, v.label(20, 3), "NEXT of the lowest leader");
        c.is(-1, v.label(30, 3), "NEXT of a higher one");
        c.is(-1, v.label(39, 3), "NEXT of the highest one");
        c.misses(v, 1, "of the remembered leader");
    }

    /** The same. */
    private static void searchingForAPage() {
        LabelledVolume v = Volumes.withFile(16);
        int[] ghosts = {30, 20, 39};
        for (int sector : ghosts) {
            v.ghost(5, sector);
            v.spoil(sector, 0, sector);
        }
        c.is(1, v.read(3, 0), "read by way of a right link");
        v.scratch(5);
        c.is(20, v.read(3, 0), "read of the lowest page 1");
        v.scratch(20);
        c.is(30, v.read(3, 0), "read of the next one");
        c.misses(v, 2, "of NEXT");
    }

    /** "if a sector is REMEMBERED for s, that is looked at": also when a lower one says the same. */
    private static void rememberedLeaderIsLookedAt() {
        LabelledVolume v = Volumes.withFiles(2);
        v.remove(1, 1);
        v.ghost(5, 3);
        v.spoil(3, 3, 99);
        c.is(0, v.length(4), "length by the remembered leader");
        c.misses(v, 0, "by the remembered leader");
        v.scratch(5);
        c.is(0, v.length(4), "length by the lower one");
        c.misses(v, 2, "of the remembered one, and of the lower one's hint");
    }

    /** "if none is, or it is missed, the leader is searched, and remembered when found". */
    private static void missedLeaderIsSearched() {
        LabelledVolume v = Volumes.withFile(1);
        v.scavenge();
        c.is(1, v.length(3), "length when none is remembered");
        c.misses(v, 0, "as none is remembered");
        v.ghost(3, 30);
        v.scratch(3);
        c.is(1, v.length(3), "length when the remembered one is missed");
        c.misses(v, 1, "of the remembered one");
        v.ghost(30, 20);
        v.spoil(20, 3, 99);
        c.is(1, v.length(3), "length by what is remembered now");
        c.misses(v, 1, "as the found one is remembered");
    }

    /** "(if not, there is no file s, and nothing is remembered for it)". */
    private static void noLeaderIsRemembered() {
        LabelledVolume v = Volumes.withFile(1);
        v.scratch(3);
        c.fails(NoSuchElementException.class, () -> v.length(3), "length without a leader");
        c.misses(v, 1, "of the remembered one");
        c.fails(NoSuchElementException.class, () -> v.read(3, 0), "read without a leader");
        c.fails(NoSuchElementException.class, () -> v.write(3, 0, 0), "write without a leader");
        c.misses(v, 1, "as nothing is remembered");
    }

    /** A leader that still says what file 3 was like before it was shortened to nothing. */
    private static LabelledVolume withOldLeader(int bytes) {
        LabelledVolume v = Volumes.withFile(bytes);
        v.ghost(3, 30);
        v.shorten(3, 0);
        return v;
    }

    /** "the sector NEXT is looked at, if that isn't NONE, and if missed .. it is searched; if there is none, ..". */
    private static void nextToAFreeSector() {
        LabelledVolume v = withOldLeader(8);
        v.scratch(3);
        c.is(0, v.label(v.label(30, 3), 0), "serial that NEXT leads to");
        c.fails(IllegalStateException.class, () -> v.length(3), "length of a broken file");
        c.misses(v, 3, "of the leader, the hint and NEXT");
    }

    /** The same. */
    private static void nextToAnotherFile() {
        LabelledVolume v = withOldLeader(8);
        v.create(1, 2, false);
        v.scratch(3);
        c.is(4, v.label(v.label(30, 3), 0), "serial that NEXT leads to");
        c.fails(IllegalStateException.class, () -> v.length(3), "length of a broken file");
        c.misses(v, 3, "of the leader, the hint and NEXT");
    }

    /** The same: page 2 is where page 1 was. */
    private static void nextToAnotherPage() {
        LabelledVolume v = withOldLeader(16);
        for (int k = 0; k < 5; k++) {
            v.spoil(2, k, k == 0 ? 64 : 0);
        }
        Volumes.append(v, 3, 16);
        c.label(v, 5, 3, 2, 8, -1, 6);
        v.scratch(3);
        c.is(16, v.length(3), "length");
        c.misses(v, 3, "of the leader, the hint and NEXT");
        c.is(1, v.read(3, 0), "byte of page 1");
        c.misses(v, 6, "of the hint, and of NEXT to the last page and to page 1");
    }

    /** The same: page 1 is where page 2 was, and an old page 1 still leads there. */
    private static void nextToALowerPage() {
        LabelledVolume v = Volumes.withFiles(2);
        Volumes.append(v, 4, 16);
        v.remove(1, 1);
        // File 4 is in sector 5 with its pages in 6 and 7; sector 3 is free.
        v.ghost(6, 3);
        v.ghost(5, 30);
        v.shorten(4, 0);
        for (int k = 0; k < 5; k++) {
            v.spoil(2, k, k == 0 ? 128 : 0);
        }
        Volumes.append(v, 4, 16);
        c.label(v, 7, 4, 1, 8, 6, 5);
        c.label(v, 6, 4, 2, 8, -1, 7);
        v.scratch(5);
        c.is(16, v.length(4), "length");
        c.misses(v, 4, "of the leader, its hint, its NEXT to page 2, and the old page's NEXT to page 1");
    }

    /** A leader whose NEXT is NONE, and that hints the last of two pages, which are in 5 and 6. */
    private static LabelledVolume withLeaderWithoutNext() {
        LabelledVolume v = Volumes.withFile(0);
        v.ghost(3, 30);
        Volumes.append(v, 3, 16);
        v.spoil(30, 3, 6);
        v.scratch(3);
        return v;
    }

    /** "the sector NEXT is looked at, if that isn't NONE, and if missed (or NONE) it is searched". */
    private static void nextThatIsNone() {
        LabelledVolume v = withLeaderWithoutNext();
        c.is(16, v.length(3), "length");
        c.is(1, v.read(3, 0), "byte of page 1");
        v.write(3, 7, 70);
        c.is(70, v.data(5, 7), "byte written to page 1");
        c.misses(v, 1, "of the leader, not of NONE");
    }

    /** "if there is none, the file is BROKEN." */
    private static void brokenBehindNone() {
        LabelledVolume v = withLeaderWithoutNext();
        v.scratch(5);
        c.is(9, v.read(3, 8), "byte of the last page");
        c.fails(IllegalStateException.class, () -> v.read(3, 0), "read of page 1");
        c.fails(IllegalStateException.class, () -> v.write(3, 0, 1), "write to page 1");
        c.misses(v, 1, "of the leader, not of NONE");
    }

    /** "Likewise the page AHEAD of it, p - 1, by BEFORE." */
    private static void pageAhead() {
        LabelledVolume v = Volumes.withFile(24);
        v.ghost(6, 30);
        v.ghost(6, 20);
        v.shorten(3, 17);
        c.misses(v, 0, "within the last page");
        v.scratch(6);
        v.shorten(3, 12);
        c.misses(v, 1, "of BEFORE");
        c.label(v, 20, 3, 2, 4, -1, 5);
        c.label(v, 30, 3, 2, 8, 7, 5);
        c.is(20, v.data(3, 3), "hint of the leader");
        c.is(0, v.label(7, 0), "page 3 is free");
    }

    /** The same: "if there is none, the file is BROKEN." */
    private static void brokenAhead() {
        c.refused(() -> withoutPageTwo(), 1, IllegalStateException.class, v -> v.shorten(3, 16), "shorten");
        c.refused(() -> withoutPageTwo(), 1, IllegalStateException.class, v -> v.remove(1, 1), "remove");
    }

    private static LabelledVolume withoutPageTwo() {
        LabelledVolume v = Volumes.withFile(24);
        v.scratch(6);
        return v;
    }

    /** "it is the last if its serial is s and its NEXT is NONE; if missed, ..". */
    private static void hintOfTheLastPage() {
        // Of file 3 with the pages 5, 6, 7: other files' pages without NEXT, free, unreadable, none, NEXT not NONE.
        int[] wrong = {2, 4, 8, 9, 39, 30, 40, 255, 0, 3, 5, 6};
        for (int sector : wrong) {
            LabelledVolume v = Volumes.withFile(17);
            v.create(1, 2, false);
            v.scratch(30);
            v.spoil(3, 3, sector);
            c.is(17, v.length(3), "length with the hint " + sector);
            c.misses(v, 1, "of the hint " + sector);
        }
        LabelledVolume w = Volumes.withFile(17);
        c.is(17, w.length(3), "length with the right hint");
        w.ghost(7, 39);
        w.spoil(3, 3, 39);
        c.is(17, w.length(3), "length with the hint of a ghost");
        c.misses(w, 0, "with hints that the labels agree with");
    }

    /** The same, for the root and the map. */
    private static void hintsOfTheRootAndTheMap() {
        LabelledVolume v = Volumes.withFiles(5);
        v.spoil(0, 3, 99);
        v.spoil(1, 3, 99);
        c.is(20, v.length(1), "length of the root");
        c.is(5, v.length(2), "length of the map");
        c.misses(v, 2, "of their hints");
        c.is(5, v.read(1, 10), "serial in the third entry");
        c.misses(v, 3, "of the root's hint");
    }

    /** "the pages are gone through from the leader on, .. up to one whose NEXT is NONE". */
    private static void goneThroughUpToNone() {
        LabelledVolume v = Volumes.withFile(8);
        v.ghost(5, 30);
        Volumes.append(v, 3, 8);
        v.scratch(5);
        c.is(16, v.length(3), "length by the hint");
        v.spoil(3, 3, 99);
        c.is(8, v.length(3), "length by way of an old page 1");
        c.misses(v, 2, "of the hint and of NEXT");
    }

    /** "Its LENGTH is .., 0 if that is the leader." */
    private static void lengthOfALeader() {
        LabelledVolume v = Volumes.withFile(0);
        c.is(0, v.length(3), "length of a new file");
        c.is(0, new LabelledVolume().length(1), "length of a new root");
        v.ghost(3, 30);
        Volumes.append(v, 3, 9);
        v.spoil(3, 3, 30);
        c.is(0, v.length(3), "length by the hint of an old leader");
        c.fails(IndexOutOfBoundsException.class, () -> v.read(3, 0), "read of byte 0");
        c.misses(v, 0, "by hints that the labels agree with");
        LabelledVolume w = Volumes.withFile(9);
        w.shorten(3, 0);
        c.is(0, w.length(3), "length when it was shortened to nothing");
        w.spoil(3, 3, 77);
        c.is(0, w.length(3), "length when the leader is gone through");
        c.misses(w, 1, "of the hint");
    }

    /** "Its LENGTH is 8 * (that page - 1) + USED there". */
    private static void lengthUpToTheLastPage() {
        for (int n = 1; n <= 25; n++) {
            LabelledVolume v = Volumes.withFile(n);
            c.is(n, v.length(3), "length");
            v.spoil(3, 3, 0);
            c.is(n, v.length(3), "length by going through the pages");
            c.misses(v, 1, "of the hint");
        }
    }

    /** "Page p of s is the last one, if that is p". */
    private static void lastPageIsNotGoneTo() {
        LabelledVolume v = Volumes.withFile(20);
        v.scratch(5);
        v.scratch(6);
        c.is(17, v.read(3, 16), "first byte of the last page");
        c.is(20, v.read(3, 19), "last byte");
        v.write(3, 17, 99);
        c.is(99, v.read(3, 17), "byte written to the last page");
        c.misses(v, 0, "as the last page is not gone to");
    }

    /** ".. else it is gone to from the leader on." */
    private static void otherPagesAreGoneTo() {
        LabelledVolume v = Volumes.withFile(24);
        v.ghost(5, 30);
        v.scratch(5);
        c.is(16, v.read(3, 15), "last byte of page 2");
        c.misses(v, 1, "of page 1, on the way");
        c.is(17, v.read(3, 16), "byte of the last page");
        c.misses(v, 1, "as the last page is not gone to");
        v.scratch(30);
        c.fails(IllegalStateException.class, () -> v.read(3, 8), "read of page 2 without page 1");
    }

    /** "if there is none, the file is BROKEN": a ghost lets a file go on above pages that it has no more. */
    private static void pagesAboveTheNumberOfSectors() {
        LabelledVolume v = Volumes.withFile(240);
        v.ghost(34, 39);
        v.shorten(3, 0);
        v.spoil(3, 3, 39);
        c.is(240, v.length(3), "length up to the ghost");
        Volumes.append(v, 3, 96);
        c.label(v, 16, 3, 42, 8, -1, 15);
        c.is(336, v.length(3), "length up to page 42");
        c.is(336 & 255, v.read(3, 335), "byte of the last page");
        c.fails(IllegalStateException.class, () -> v.read(3, 327), "read of the page ahead of it");
        c.fails(IllegalStateException.class, () -> v.shorten(3, 0), "shorten to nothing");
        c.fails(IllegalStateException.class, () -> v.remove(1, 1), "remove");
        v.shorten(3, 300);
        c.is(300, v.length(3), "length when it was shortened to pages that are there");
        c.misses(v, 2, "of the page ahead of the ghost, by shorten and by remove");
        c.is(3, v.scavenge(), "scavenge");
        c.is(9, v.report(1), "sectors lost");
        c.is(0, v.length(3), "length behind the scavenging");
    }

    /** "ENTRIES are gone through from the leader on, up to a page whose NEXT is NONE, the END." */
    private static void entriesUpToTheEnd() {
        LabelledVolume v = Volumes.withFiles(2);
        v.ghost(4, 30);
        v.create(1, 3, false);
        c.is(5, v.open(1, 3), "open of the third entry");
        v.scratch(4);
        c.is(4, v.open(1, 2), "open by way of an old page 1");
        c.fails(NoSuchElementException.class, () -> v.open(1, 3), "open of what is behind the END");
        c.fails(NoSuchElementException.class, () -> v.entry(1, 2, 0), "entry behind the END");
        c.misses(v, 3, "of NEXT, each time");
        c.is(6, v.create(1, 3, false), "create behind that END");
        c.label(v, 9, 1, 2, 4, -1, 30);
        c.is(9, v.label(30, 3), "NEXT of the END");
        c.is(9, v.data(0, 3), "hint of the root's leader");
    }

    /** The same: the hint of the last page is not looked at for them. */
    private static void entriesNeedNoHintOfTheLastPage() {
        LabelledVolume v = Volumes.withFiles(4);
        v.spoil(0, 3, 99);
        c.is(5, v.open(1, 3), "open");
        c.is(4, v.entry(1, 3, 0), "name of entry 3");
        c.is(7, v.create(1, 5, false), "create with a new page");
        c.misses(v, 0, "as no hint is looked at");
        c.is(10, v.data(0, 3), "hint of the root's leader");
        c.label(v, 10, 1, 3, 4, -1, 7);
    }
}
