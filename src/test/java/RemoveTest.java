import java.util.NoSuchElementException;

/** Promise 7: remove, with REMOVING. */
public final class RemoveTest {
    private static final Check c = new Check();

    public static void main(String[] args) {
        ordinary();
        filesOfEachLength();
        entryBecomesAHole();
        orderOfWriting();
        directories();
        wrongInputs();
        broken();
        linksAreHints();
        leaderIsNotLookedForAgain();
        oneOfTwoLeaders();
        withoutAMap();
        nothingIsRemembered();
        c.end();
    }

    private static void ordinary() {
        LabelledVolume v = Volumes.withFile(20);
        int before = v.state(1);
        c.is(4, v.remove(1, 1), "remove");
        c.written(v, before + 6, "entry, three pages, leader, map");
        c.data(v, 4, 0, 0, 0, 0);
        c.label(v, 4, 1, 1, 4, -1, 0);
        int[] freed = {3, 5, 6, 7};
        for (int sector : freed) {
            c.label(v, sector, 0, 0, 0, -1, -1);
            c.data(v, sector, 0, 0, 0, 0, 0, 0, 0, 0);
        }
        c.data(v, 2, 232, 255);
        c.is(36, v.state(2), "free sectors");
        c.fails(NoSuchElementException.class, () -> v.open(1, 1), "open of a removed file");
        c.fails(NoSuchElementException.class, () -> v.remove(1, 1), "remove again");
        c.misses(v, 0, "with right hints");
    }

    /** "how many sectors became free": the pages from the last one on to page 1, and the leader. */
    private static void filesOfEachLength() {
        for (int length = 0; length <= 25; length++) {
            LabelledVolume v = Volumes.withFile(length);
            int pages = (length + 7) / 8;
            int written = v.state(1);
            c.is(pages + 1, v.remove(1, 1), "remove of " + length + " bytes");
            c.is(36, v.state(2), "free sectors");
            c.written(v, written + pages + 3, "entry, pages, leader, map");
            c.data(v, 2, 232, 255, 255, 255, 255);
            for (int sector = 5; sector < 10; sector++) {
                c.label(v, sector, 0, 0, 0, -1, -1);
            }
            c.is(3, v.create(1, 2, false), "serial that no label says any more");
            c.misses(v, 0, "with right hints");
        }
    }

    /** "the entry becomes a hole", "a HOLE (all 0)". */
    private static void entryBecomesAHole() {
        LabelledVolume v = new LabelledVolume();
        v.create(1, 1000, false);
        v.create(1, 2000, false);
        c.data(v, 4, 3, 232, 3, 3, 7, 208, 4, 5);
        c.is(1, v.remove(1, 1000), "remove of the first");
        c.data(v, 4, 0, 0, 0, 0, 7, 208, 4, 5);
        c.is(1, v.remove(1, 2000), "remove of the second");
        c.data(v, 4, 0, 0, 0, 0, 0, 0, 0, 0);
        c.label(v, 4, 1, 1, 8, -1, 0);
        c.is(8, v.length(1), "length of a root of holes");
    }

    /**
     * "the entry becomes a hole; then the file's pages from the last one on to page 1, .. then its leader become
     * free", and the map at the end.
     */
    private static void orderOfWriting() {
        for (int charge = 0; charge <= 5; charge++) {
            LabelledVolume v = Volumes.withFile(16);
            v.charge(charge);
            if (charge < 5) {
                c.fails(UnsupportedOperationException.class, () -> v.remove(1, 1), "remove, charge " + charge);
            } else {
                c.is(3, v.remove(1, 1), "remove, charge 5");
            }
            c.is(charge > 0 ? 0 : 3, v.data(4, 2), "serial in the entry, charge " + charge);
            c.is(charge > 1 ? 0 : 3, v.label(6, 0), "serial of page 2, charge " + charge);
            c.is(charge > 2 ? 0 : 3, v.label(5, 0), "serial of page 1, charge " + charge);
            c.is(charge > 3 ? 0 : 3, v.label(3, 0), "serial of the leader, charge " + charge);
            c.is(charge > 4 ? 232 : 128, v.data(2, 0), "map, charge " + charge);
        }
    }

    private static void directories() {
        LabelledVolume v = new LabelledVolume();
        v.create(1, 1, true);
        v.create(3, 2, false);
        c.fails(IllegalStateException.class, () -> v.remove(1, 1), "remove of a directory with an entry");
        c.is(1, v.remove(3, 2), "remove of its entry");
        c.is(2, v.remove(1, 1), "remove of a directory with a hole");
        c.is(36, v.state(2), "free sectors");

        LabelledVolume w = new LabelledVolume();
        w.create(1, 1, true);
        c.is(1, w.remove(1, 1), "remove of a directory without entries");

        LabelledVolume x = new LabelledVolume();
        x.create(1, 1, true);
        for (int name = 1; name <= 3; name++) {
            x.create(3, name, false);
        }
        x.scratch(9);
        c.fails(IllegalStateException.class, () -> x.remove(1, 1), "remove of a directory with an entry ahead");
        c.misses(x, 0, "as it is gone through up to that one");
        x.remove(3, 1);
        x.remove(3, 2);
        c.fails(IllegalStateException.class, () -> x.remove(1, 1), "remove of a broken directory");
        c.misses(x, 1, "of its second page");
    }

    private static void wrongInputs() {
        LabelledVolume v = Volumes.withFile(9);
        String before = Volumes.picture(v);
        c.fails(NoSuchElementException.class, () -> v.remove(0, 1), "remove from no file 0");
        c.fails(NoSuchElementException.class, () -> v.remove(61, 1), "remove from no file 61");
        c.fails(NoSuchElementException.class, () -> v.remove(4, 1), "remove from no file 4");
        c.fails(IllegalArgumentException.class, () -> v.remove(2, 1), "remove from the map");
        c.fails(IllegalArgumentException.class, () -> v.remove(3, 1), "remove from a file");
        c.fails(NoSuchElementException.class, () -> v.remove(1, 2), "remove of no entry");
        c.is(true, before.equals(Volumes.picture(v)), "nothing is changed by what throws");
        v.spoil(4, 2, 2);
        c.fails(NoSuchElementException.class, () -> v.remove(1, 1), "remove of an entry for the map");
        v.spoil(4, 2, 61);
        c.fails(NoSuchElementException.class, () -> v.remove(1, 1), "remove of an entry for 61");
        v.spoil(4, 2, 3);
        v.charge(0);
        c.fails(UnsupportedOperationException.class, () -> v.remove(1, 1), "remove with charge 0");
        c.fails(UnsupportedOperationException.class, () -> v.remove(99, 1), "remove without power");
    }

    /** "(all were found before, the map's page behind them)". */
    private static void broken() {
        LabelledVolume v = Volumes.withFile(24);
        v.scratch(6);
        String before = Volumes.picture(v);
        c.fails(IllegalStateException.class, () -> v.remove(1, 1), "remove of a broken file");
        c.misses(v, 1, "of page 2 by BEFORE, not of the map's page");
        c.is(true, before.equals(Volumes.picture(v)), "nothing is changed");
    }

    /** "each ahead of the one behind it". */
    private static void linksAreHints() {
        LabelledVolume v = Volumes.withFile(24);
        v.ghost(6, 30);
        v.scratch(6);
        v.spoil(3, 3, 99);
        c.is(4, v.remove(1, 1), "remove with page 2 elsewhere");
        c.misses(v, 3, "of the hint, of page 2 by NEXT and of page 2 by BEFORE");
        c.is(0, v.label(30, 0), "page 2 is free");
    }

    /** "Removes the file of an entry, which is found as by open()": its leader is the one that was found so. */
    private static void leaderIsNotLookedForAgain() {
        LabelledVolume v = Volumes.withFile(8);
        v.ghost(3, 30);
        v.scratch(3);
        v.spoil(4, 3, 30);
        c.is(2, v.remove(1, 1), "remove with the leader elsewhere");
        c.misses(v, 0, "as the leader was found by the entry");
        c.is(0, v.label(30, 0), "the leader is free");
    }

    /** ".. then its leader become free": of two sectors that say page 0 the one that was found by the entry. */
    private static void oneOfTwoLeaders() {
        LabelledVolume v = Volumes.withFile(8);
        v.ghost(3, 30);
        v.spoil(4, 3, 30);
        int before = v.state(1);
        c.is(2, v.remove(1, 1), "remove with two leaders");
        c.written(v, before + 4, "entry, page, leader, map");
        c.is(0, v.label(30, 0), "the leader is free");
        c.label(v, 3, 3, 0, 8, 5, -1);
        c.data(v, 3, 0, 1, 0, 5);
        c.misses(v, 0, "by hints that the labels agree with");
        c.is(4, v.create(1, 1, false), "serial while page 0 of file 3 is left");
    }

    private static void withoutAMap() {
        LabelledVolume v = Volumes.withFile(8);
        v.scratch(1);
        int before = v.state(1);
        c.is(2, v.remove(1, 1), "remove without a map");
        c.written(v, before + 3, "entry, page, leader");
        c.misses(v, 1, "of the remembered leader of the map");
    }

    /** "at the end nothing is remembered for it." */
    private static void nothingIsRemembered() {
        LabelledVolume v = Volumes.withFile(0);
        v.remove(1, 1);
        c.fails(NoSuchElementException.class, () -> v.length(3), "length of a removed file");
        c.misses(v, 0, "as nothing is remembered for it");
    }
}
