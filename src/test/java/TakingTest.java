/** TAKING and freeing sectors, and what the map says of them. */
public final class TakingTest {
    private static final Check c = new Check();

    public static void main(String[] args) {
        withoutFileTwo();
        withABrokenMap();
        withTheMapElsewhere();
        fromZeroOnUntilEnough();
        notFreeIsAMiss();
        tooFewBits();
        otherOnesAreSearched();
        full();
        fullButForOne();
        notFullForOne();
        foundBeforeFreeing();
        foundBeforeTaking();
        notFoundWithoutNeed();
        writtenAtTheEnd();
        writtenBehindAllElse();
        notWrittenWithoutChange();
        c.end();
    }

    /** "if there is no file 2, or it is broken, there are no bits". */
    private static void withoutFileTwo() {
        LabelledVolume v = Volumes.withFile(0);
        v.spoil(2, 0, 128);
        v.scratch(1);
        int before = v.state(1);
        v.write(3, 0, 1);
        c.is(5, v.data(3, 3), "the lowest free sector, as there are no bits");
        c.written(v, before + 2, "new page, leader");
        c.data(v, 2, 128, 255, 255, 255, 255);
        v.shorten(3, 0);
        c.data(v, 2, 128, 255, 255, 255, 255);
        c.written(v, before + 4, "freed page, leader");
        c.misses(v, 1, "of the remembered leader of the map, once");
    }

    /** The same. */
    private static void withABrokenMap() {
        LabelledVolume v = Volumes.withFile(0);
        v.scratch(2);
        int before = v.state(1);
        v.write(3, 0, 1);
        c.is(5, v.data(3, 3), "the lowest free sector, as there are no bits");
        v.shorten(3, 0);
        c.written(v, before + 4, "new page, leader, freed page, leader");
        c.misses(v, 2, "of the map's page, each time");
    }

    /** "first the page of the map is found (the page behind the leader of file 2 ..". */
    private static void withTheMapElsewhere() {
        LabelledVolume v = Volumes.withFile(0);
        v.ghost(2, 30);
        v.ghost(1, 31);
        v.spoil(30, 0, 128);
        v.scratch(1);
        v.scratch(2);
        v.write(3, 0, 1);
        c.is(7, v.data(3, 3), "the sector that the bits say");
        c.is(0, v.data(30, 0), "its bit is cleared");
        c.misses(v, 2, "of the map's leader and page");
        v.shorten(3, 0);
        c.is(128, v.data(30, 0), "its bit is set");
        c.misses(v, 3, "of the map's page");
    }

    /** "the sectors whose bits say free are looked at, from 0 on, until enough are found". */
    private static void fromZeroOnUntilEnough() {
        LabelledVolume v = Volumes.withFile(0);
        v.scratch(7);
        v.spoil(2, 0, 255);
        v.write(3, 0, 1);
        c.is(5, v.data(3, 3), "the first free one");
        c.misses(v, 5, "of the sectors 0 .. 4, and none behind");
        c.data(v, 2, 192, 255, 255, 255, 255);

        LabelledVolume w = new LabelledVolume();
        w.scratch(5);
        w.scratch(7);
        w.spoil(2, 0, 232);
        w.create(1, 1, false);
        c.is(3, w.label(3, 0), "serial of the first one");
        c.is(1, w.label(6, 0), "serial of the second one");
        c.misses(w, 1, "of sector 5, between them");
        c.data(w, 2, 128, 255, 255, 255, 255);
    }

    /** "one that is not free is a MISS", "the bits of those taken or missed are cleared". */
    private static void notFreeIsAMiss() {
        int[] wrong = {0, 1, 2, 3, 4, 5, 6};
        for (int sector : wrong) {
            LabelledVolume v = Volumes.withFile(8);
            v.scratch(6);
            v.spoil(2, 0, 128 | 1 << sector);
            v.write(3, 8, 1);
            c.is(7, v.data(3, 3), "the free one");
            c.misses(v, 1, "of sector " + sector);
            c.data(v, 2, 0, 255, 255, 255, 255);
        }
    }

    /** "If these are too few, the lowest other free ones are searched". */
    private static void tooFewBits() {
        LabelledVolume v = Volumes.withFile(0);
        for (int k = 0; k < 5; k++) {
            v.spoil(2, k, 0);
        }
        v.spoil(2, 0, 31);
        v.scratch(5);
        v.write(3, 0, 1);
        c.is(6, v.data(3, 3), "the lowest free one");
        c.misses(v, 5, "of the bits alone");
        c.data(v, 2, 0, 0, 0, 0, 0);
    }

    /** The same: the second one is another than the first one, be that lower or higher. */
    private static void otherOnesAreSearched() {
        int[] hinted = {3, 4, 20, 39};
        for (int sector : hinted) {
            LabelledVolume v = new LabelledVolume();
            for (int k = 0; k < 5; k++) {
                v.spoil(2, k, k == sector / 8 ? 1 << sector % 8 : 0);
            }
            v.create(1, 1, false);
            c.label(v, sector, 3, 0, 8, -1, -1);
            c.label(v, sector == 3 ? 4 : 3, 1, 1, 4, -1, 0);
            c.misses(v, 0, "by searching");
            c.data(v, 2, 0, 0, 0, 0, 0);
        }
    }

    /** "if there are too few of them, too, the volume is FULL." */
    private static void full() {
        c.is(0, withFree(0).state(2), "free sectors");
        c.refused(() -> withFree(0), 34, IllegalStateException.class, v -> v.write(3, 8, 1), "write");
        c.refused(() -> withFree(0), 34, IllegalStateException.class, v -> v.create(1, 2, false), "create");
    }

    /** File 3 has a page that is full; all free sectors but the lowest few are unreadable, which the map denies. */
    private static LabelledVolume withFree(int spared) {
        LabelledVolume v = Volumes.withFile(8);
        Volumes.scratchFree(v, spared);
        return v;
    }

    /** The same, when two are needed: one bit and no other free sector, or no bit and one sector. */
    private static void fullButForOne() {
        c.refused(() -> withoutRootPage(1), 36, IllegalStateException.class, v -> v.create(1, 1, false), "one bit");
        c.refused(() -> {
            LabelledVolume v = withoutRootPage(1);
            v.scratch(2);
            return v;
        }, 1, IllegalStateException.class, v -> v.create(1, 1, true), "no bit");
    }

    private static LabelledVolume withoutRootPage(int spared) {
        LabelledVolume v = new LabelledVolume();
        Volumes.scratchFree(v, spared);
        return v;
    }

    /** The same: one free sector is enough for one, two are enough for two. */
    private static void notFullForOne() {
        LabelledVolume v = withFree(1);
        v.write(3, 8, 1);
        c.is(9, v.length(3), "length with the last free sector");
        c.is(4, withFree(1).create(1, 2, false), "create with the last free sector");
        LabelledVolume w = withoutRootPage(2);
        c.is(3, w.create(1, 2, false), "create with the last two free sectors");
        c.is(0, w.state(2), "free sectors");
    }

    /** The map's page is in sector 30, which is known only by searching; no sector can be written. */
    private static LabelledVolume withoutCharge(int bytes) {
        LabelledVolume v = Volumes.withFile(bytes);
        v.ghost(2, 30);
        v.scratch(2);
        v.charge(0);
        return v;
    }

    /** "In a call that FREES sectors the map's page is found before the first of them is written." */
    private static void foundBeforeFreeing() {
        LabelledVolume v = withoutCharge(9);
        c.fails(UnsupportedOperationException.class, () -> v.shorten(3, 8), "shorten with charge 0");
        c.misses(v, 1, "of the map's page");
        LabelledVolume w = withoutCharge(9);
        c.fails(UnsupportedOperationException.class, () -> w.remove(1, 1), "remove with charge 0");
        c.misses(w, 1, "of the map's page");
    }

    /** "TAKING sectors: first the page of the map is found". */
    private static void foundBeforeTaking() {
        LabelledVolume v = withoutCharge(8);
        c.fails(UnsupportedOperationException.class, () -> v.write(3, 8, 1), "write with charge 0");
        c.misses(v, 1, "of the map's page");
        LabelledVolume w = withoutCharge(8);
        c.fails(UnsupportedOperationException.class, () -> w.create(1, 2, false), "create with charge 0");
        c.misses(w, 1, "of the map's page");
    }

    /** A call that neither takes nor frees a sector does not look for the map's page. */
    private static void notFoundWithoutNeed() {
        LabelledVolume v = Volumes.withFile(7);
        v.scratch(1);
        v.scratch(2);
        v.write(3, 0, 5);
        v.write(3, 7, 5);
        v.shorten(3, 7);
        v.shorten(3, 7);
        c.is(3, v.open(1, 1), "open");
        c.misses(v, 0, "as the map is not looked for");
        v.write(3, 7, 5);
        v.write(3, 8, 5);
        c.misses(v, 1, "of the map's leader");
    }

    /** "the bits of those taken or missed are cleared, of those freed are set". */
    private static void writtenAtTheEnd() {
        LabelledVolume v = Volumes.withFile(24);
        c.data(v, 2, 0, 255, 255, 255, 255);
        v.shorten(3, 1);
        c.data(v, 2, 192, 255, 255, 255, 255);
        v.remove(1, 1);
        c.data(v, 2, 232, 255, 255, 255, 255);
        v.create(1, 1, false);
        c.data(v, 2, 224, 255, 255, 255, 255);
        c.misses(v, 0, "with right bits");
    }

    /** "At the end of a call that took or freed some, the map's page (if found) is written". */
    private static void writtenBehindAllElse() {
        LabelledVolume v = Volumes.withFile(8);
        v.charge(3);
        c.fails(UnsupportedOperationException.class, () -> v.write(3, 8, 1), "write, cut off before the map");
        c.label(v, 6, 3, 2, 1, -1, 5);
        c.is(6, v.data(3, 3), "hint of the leader");
        c.data(v, 2, 192, 255, 255, 255, 255);

        LabelledVolume w = Volumes.withFile(8);
        w.charge(3);
        c.fails(UnsupportedOperationException.class, () -> w.remove(1, 1), "remove, cut off before the map");
        c.is(0, w.label(3, 0), "serial where the leader was");
        c.data(w, 2, 192, 255, 255, 255, 255);
    }

    /** "but not if that changes nothing." */
    private static void notWrittenWithoutChange() {
        LabelledVolume v = Volumes.withFile(9);
        for (int k = 0; k < 5; k++) {
            v.spoil(2, k, 0);
        }
        Volumes.append(v, 3, 7);
        int before = v.state(1);
        v.write(3, 16, 1);
        c.written(v, before + 3, "new page, last page, leader");
        v.spoil(2, 0, 128);
        v.shorten(3, 16);
        c.written(v, before + 6, "freed page, last page, leader");
        c.data(v, 2, 128, 0, 0, 0, 0);
        v.shorten(3, 8);
        c.written(v, before + 10, "freed page, last page, leader, map");
        c.data(v, 2, 192, 0, 0, 0, 0);
        v.spoil(2, 0, 232);
        c.is(2, v.remove(1, 1), "remove");
        c.written(v, before + 13, "entry, freed page, freed leader");
    }
}
