import java.util.NoSuchElementException;

/** Promise 1: a new object is as the Terms say. */
public final class NewVolumeTest {
    private static final Check c = new Check();

    public static void main(String[] args) {
        rootAndMap();
        allOthersAreFree();
        nothingIsCounted();
        nothingIsReported();
        hintsAndTheMapAreRight();
        nothingIsRemembered();
        objectsAreApart();
        lastOfItsCalls();
        c.end();
    }

    /** "At first the root's leader is in sector 0, the map's in 1 (names 0, KINDS 1 and 0), the map's page in 2". */
    private static void rootAndMap() {
        LabelledVolume v = new LabelledVolume();
        c.label(v, 0, 1, 0, 8, -1, -1);
        c.data(v, 0, 0, 0, 1, 0, 0, 0, 0, 0);
        c.label(v, 1, 2, 0, 8, 2, -1);
        c.data(v, 1, 0, 0, 0, 2, 0, 0, 0, 0);
        c.label(v, 2, 2, 1, 5, -1, 1);
        c.data(v, 2, 248, 255, 255, 255, 255, 0, 0, 0);
    }

    /** "all others are free". */
    private static void allOthersAreFree() {
        LabelledVolume v = new LabelledVolume();
        for (int sector = 3; sector < 40; sector++) {
            c.label(v, sector, 0, 0, 0, -1, -1);
            c.data(v, sector, 0, 0, 0, 0, 0, 0, 0, 0);
        }
    }

    private static void nothingIsCounted() {
        LabelledVolume v = new LabelledVolume();
        c.is(0, v.state(0), "misses");
        c.is(0, v.state(1), "sectors written");
        c.is(37, v.state(2), "free sectors");
        c.is(0, v.state(3), "unreadable sectors");
        c.is(1, v.state(4), "power");
    }

    private static void nothingIsReported() {
        LabelledVolume v = new LabelledVolume();
        for (int what = 0; what < 5; what++) {
            c.is(0, v.report(what), "report(" + what + ")");
        }
    }

    /** "the hints and the map are right". */
    private static void hintsAndTheMapAreRight() {
        LabelledVolume v = new LabelledVolume();
        c.is(0, v.length(1), "length of the root");
        c.is(5, v.length(2), "length of the map");
        c.fails(NoSuchElementException.class, () -> v.open(1, 1), "open in a root without entries");
        c.fails(NoSuchElementException.class, () -> v.entry(1, 0, 0), "entry of a root without entries");
        c.is(3, v.create(1, 1, false), "create");
        c.misses(v, 0, "with right hints");
        LabelledVolume w = new LabelledVolume();
        c.is(2, w.scavenge(), "files");
        c.is(0, w.report(4), "sectors that a scavenging had to write");
    }

    /** "Nothing is remembered." */
    private static void nothingIsRemembered() {
        LabelledVolume v = new LabelledVolume();
        v.scratch(0);
        v.scratch(1);
        c.fails(NoSuchElementException.class, () -> v.length(1), "length of a root without a leader");
        c.fails(NoSuchElementException.class, () -> v.length(2), "length of a map without a leader");
        c.misses(v, 0, "as nothing was remembered");
    }

    private static void objectsAreApart() {
        LabelledVolume v = Volumes.withFile(9);
        LabelledVolume w = new LabelledVolume();
        v.scratch(0);
        v.charge(0);
        c.is(37, w.state(2), "free sectors of another object");
        c.is(3, w.create(1, 1, false), "create there");
        c.is(9, v.read(3, 8), "read in the first one");
    }

    /** "An object is used for at most 512 calls after it has been made". */
    private static void lastOfItsCalls() {
        LabelledVolume v = new LabelledVolume();
        v.create(1, 1, false);
        for (int n = 2; n < 510; n++) {
            v.write(3, (n - 2) % 16, n);
        }
        c.is(16, v.length(3), "length, by the call before the last two");
        c.is(509 & 255, v.read(3, 507 % 16), "read, by the last call but one");
        c.is(3, v.scavenge(), "scavenge, by the last call");
    }
}
