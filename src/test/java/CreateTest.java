import java.util.NoSuchElementException;

/** Promise 2: create, with ENTRIES, TAKING and CREATING. */
public final class CreateTest {
    private static final Check c = new Check();

    public static void main(String[] args) {
        ordinary();
        orderOfWriting();
        orderOfWritingInLaterPage();
        entriesFillPages();
        holeIsTakenFirst();
        inDirectories();
        wrongInputs();
        brokenDirectory();
        lowestSerial();
        serialsFromThreeOn();
        mapIsOnlyAHint();
        withoutAMap();
        fullVolume();
        oneFreeSector();
        roomInTheEnd();
        firstHoleOfSeveral();
        rootIsADirectoryWhateverItsKind();
        remembersTheNewLeader();
        withoutPower();
        c.end();
    }

    /** "Creates a file, or a directory, with a name in a directory: its serial." */
    private static void ordinary() {
        LabelledVolume v = new LabelledVolume();
        c.is(3, v.create(1, 258, false), "create");
        c.label(v, 3, 3, 0, 8, -1, -1);
        c.data(v, 3, 1, 2, 0, 3, 0, 0, 0, 0);
        c.label(v, 4, 1, 1, 4, -1, 0);
        c.data(v, 4, 1, 2, 3, 3, 0, 0, 0, 0);
        c.label(v, 0, 1, 0, 8, 4, -1);
        c.data(v, 0, 0, 0, 1, 4, 0, 0, 0, 0);
        c.data(v, 2, 224, 255, 255, 255, 255);
        c.written(v, 4, "by create with a new page");
        c.is(4, v.create(1, 9999, true), "create of a directory");
        c.data(v, 5, 39, 15, 1, 5, 0, 0, 0, 0);
        c.label(v, 4, 1, 1, 8, -1, 0);
        c.data(v, 4, 1, 2, 3, 3, 39, 15, 4, 5);
        c.written(v, 7, "by create with a second entry");
        c.misses(v, 0, "with right hints");
    }

    /**
     * "the leader .., then the entry", "as a byte behind all does": leader, new page, the root's leader with both
     * link and hint, map.
     */
    private static void orderOfWriting() {
        for (int charge = 0; charge <= 4; charge++) {
            LabelledVolume v = new LabelledVolume();
            v.charge(charge);
            if (charge < 4) {
                c.fails(UnsupportedOperationException.class, () -> v.create(1, 7, true), "create, charge " + charge);
            } else {
                c.is(3, v.create(1, 7, true), "create, charge 4");
            }
            c.is(charge < 4 ? 0 : 1, v.state(4), "power, charge " + charge);
            c.written(v, charge, "with charge " + charge);
            c.is(charge > 0 ? 3 : 0, v.label(3, 0), "serial of the new leader, charge " + charge);
            c.is(charge > 1 ? 1 : 0, v.label(4, 0), "serial of the new page, charge " + charge);
            c.is(charge > 2 ? 4 : -1, v.label(0, 3), "NEXT of the root's leader, charge " + charge);
            c.is(charge > 2 ? 4 : 0, v.data(0, 3), "hint of the root's leader, charge " + charge);
            c.is(charge > 3 ? 224 : 248, v.data(2, 0), "map, charge " + charge);
        }
    }

    /** "as a byte behind all does, the END being the last page": leader, new page, END, the root's leader, map. */
    private static void orderOfWritingInLaterPage() {
        for (int charge = 0; charge <= 5; charge++) {
            LabelledVolume v = new LabelledVolume();
            v.create(1, 1, false);
            v.create(1, 2, false);
            v.charge(charge);
            if (charge < 5) {
                c.fails(UnsupportedOperationException.class, () -> v.create(1, 3, false), "create, charge " + charge);
            } else {
                c.is(5, v.create(1, 3, false), "create, charge 5");
            }
            c.is(charge > 0 ? 5 : 0, v.label(6, 0), "serial of the new leader, charge " + charge);
            c.is(charge > 1 ? 2 : 0, v.label(7, 1), "page number of the new page, charge " + charge);
            c.is(charge > 2 ? 7 : -1, v.label(4, 3), "NEXT of the END, charge " + charge);
            c.is(charge > 3 ? 7 : 4, v.data(0, 3), "hint of the root's leader, charge " + charge);
            c.is(charge > 4 ? 0 : 192, v.data(2, 0), "map, charge " + charge);
        }
    }

    private static void entriesFillPages() {
        LabelledVolume v = new LabelledVolume();
        for (int name = 1; name <= 5; name++) {
            c.is(name + 2, v.create(1, name, false), "create");
        }
        c.label(v, 4, 1, 1, 8, 7, 0);
        c.label(v, 7, 1, 2, 8, 10, 4);
        c.label(v, 10, 1, 3, 4, -1, 7);
        c.is(10, v.data(0, 3), "hint of the last page");
        c.is(20, v.length(1), "length of the root");
        c.misses(v, 0, "with right hints");
    }

    private static void holeIsTakenFirst() {
        LabelledVolume v = new LabelledVolume();
        for (int name = 1; name <= 3; name++) {
            v.create(1, name, false);
        }
        v.remove(1, 2);
        v.remove(1, 1);
        int before = v.state(1);
        c.is(3, v.create(1, 9, false), "create with two holes");
        c.written(v, before + 3, "by create in a hole");
        c.data(v, 4, 0, 9, 3, 3, 0, 0, 0, 0);
        c.is(8, v.label(4, 2), "USED of a page with a hole filled");
        c.is(4, v.create(1, 8, false), "create with one hole");
        c.is(6, v.create(1, 7, false), "create without a hole");
        c.is(6, v.data(7, 6), "serial behind the last entry");
        v.spoil(4, 2, 0);
        c.is(7, v.create(1, 9, false), "create of a name that only a spoilt hole has");
        c.data(v, 4, 0, 9, 7);
    }

    /** "it has an entry (no hole) with that name": it alone, and no other directory. */
    private static void inDirectories() {
        LabelledVolume v = new LabelledVolume();
        v.create(1, 1, true);
        c.is(4, v.create(3, 1, true), "create of a name that another directory has");
        c.is(5, v.create(4, 1, false), "create in a directory in a directory");
        c.is(5, v.open(4, 1), "open there");
        c.is(4, v.open(3, 1), "open above it");
    }

    private static void wrongInputs() {
        LabelledVolume v = new LabelledVolume();
        v.create(1, 1, false);
        String before = Volumes.picture(v);
        int[] noFile = {-1, 0, 4, 60, 61, Integer.MAX_VALUE, Integer.MIN_VALUE};
        for (int dir : noFile) {
            c.fails(NoSuchElementException.class, () -> v.create(dir, 0, false), "create in no file " + dir);
        }
        c.fails(IllegalArgumentException.class, () -> v.create(2, 5, false), "create in the map");
        c.fails(IllegalArgumentException.class, () -> v.create(3, 5, false), "create in a file");
        int[] noName = {0, -1, 10000, 65536 + 5, Integer.MIN_VALUE};
        for (int name : noName) {
            c.fails(IllegalArgumentException.class, () -> v.create(1, name, true), "create of name " + name);
        }
        c.fails(IllegalStateException.class, () -> v.create(1, 1, true), "create of a name that is there");
        c.is(true, before.equals(Volumes.picture(v)), "nothing is changed by what throws");
        v.spoil(1, 2, 1);
        c.fails(IllegalArgumentException.class, () -> v.create(2, 5, false), "create in a map of KIND 1");
        v.spoil(3, 2, 2);
        c.fails(IllegalArgumentException.class, () -> v.create(3, 5, false), "create in a file of KIND 2");
    }

    /** "it is broken": the entries are gone through up to one with the name, or to the end. */
    private static void brokenDirectory() {
        LabelledVolume v = new LabelledVolume();
        for (int name = 1; name <= 3; name++) {
            v.create(1, name, false);
        }
        v.scratch(7);
        c.fails(IllegalStateException.class, () -> v.create(1, 1, false), "a name before the broken place");
        c.misses(v, 0, "before the broken place");
        c.fails(IllegalArgumentException.class, () -> v.create(1, 0, false), "a wrong name goes before");
        c.misses(v, 0, "by a wrong name");
        c.fails(IllegalStateException.class, () -> v.create(1, 4, false), "create in a broken directory");
        c.misses(v, 1, "at the broken place");
    }

    /** "The serial is the lowest from 3 on": also when no label says 1 or 2. */
    private static void serialsFromThreeOn() {
        LabelledVolume v = new LabelledVolume();
        v.scratch(1);
        v.scratch(2);
        c.is(3, v.create(1, 1, true), "serial without a map");
        // The root is in sector 0 and has its page in 4.
        v.scratch(0);
        v.scratch(4);
        c.is(4, v.create(3, 1, false), "serial without a root and a map");
    }

    /** ".. that no label says". */
    private static void lowestSerial() {
        LabelledVolume v = new LabelledVolume();
        v.create(1, 1, false);
        v.create(1, 2, false);
        v.create(1, 3, false);
        v.remove(1, 2);
        c.is(4, v.create(1, 4, false), "serial that was given back");
        c.is(6, v.create(1, 5, false), "next serial");
        v.ghost(3, 39);
        v.remove(1, 1);
        c.is(7, v.create(1, 6, false), "serial while a ghost says 3");
        v.scratch(39);
        c.is(3, v.create(1, 7, false), "serial when no label says 3");
    }

    private static void mapIsOnlyAHint() {
        LabelledVolume v = new LabelledVolume();
        v.spoil(2, 0, 255);
        v.scratch(4);
        c.is(3, v.create(1, 1, false), "create");
        c.misses(v, 4, "of the sectors 0, 1, 2, 4");
        c.is(3, v.label(3, 0), "leader in the first free sector");
        c.is(1, v.label(5, 0), "the root's page in the second one");
        c.is(192, v.data(2, 0), "bits taken and missed are cleared");

        LabelledVolume w = new LabelledVolume();
        for (int k = 0; k < 5; k++) {
            w.spoil(2, k, k == 1 ? 128 : 0);
        }
        c.is(3, w.create(1, 1, false), "create with one bit");
        c.is(3, w.label(15, 0), "leader where the bit is");
        c.is(1, w.label(3, 0), "the root's page in the lowest other one");
        c.data(w, 2, 0, 0, 0, 0, 0);
        c.written(w, 4, "with the map");
        c.is(4, w.create(1, 2, false), "create without bits");
        c.written(w, 6, "without the map, which does not change");
        c.misses(w, 0, "by searching");
    }

    private static void withoutAMap() {
        LabelledVolume v = new LabelledVolume();
        v.scratch(1);
        c.is(3, v.create(1, 1, false), "create without a file 2");
        c.written(v, 3, "without the map");
        c.misses(v, 0, "as nothing was remembered");
        c.is(248, v.data(2, 0), "the map's page is as it was");

        LabelledVolume w = new LabelledVolume();
        w.scratch(2);
        c.is(3, w.create(1, 1, false), "create with a broken map");
        c.is(3, w.label(3, 0), "leader in the lowest free sector");
        c.misses(w, 1, "of the map's page");

        LabelledVolume x = new LabelledVolume();
        x.ghost(2, 30);
        x.scratch(2);
        c.is(3, x.create(1, 1, false), "create with the map's page elsewhere");
        c.misses(x, 1, "of the map's page");
        c.is(224, x.data(30, 0), "the map's page where it was found");
    }

    private static void fullVolume() {
        LabelledVolume v = Volumes.full();
        c.is(0, v.state(2), "free sectors");
        v.spoil(2, 4, 3);
        int written = v.state(1);
        c.fails(IllegalStateException.class, () -> v.create(1, 2, false), "create on a full volume");
        c.misses(v, 2, "of the spoilt bits");
        c.written(v, written, "on a full volume");
        c.data(v, 2, 0, 0, 0, 0, 3);
        c.label(v, 4, 1, 1, 4, -1, 0);
    }

    /** "the sectors (one, or two for a new page of the directory, the second one) are taken". */
    private static void oneFreeSector() {
        LabelledVolume v = Volumes.full();
        v.shorten(3, v.length(3) - 8);
        c.is(1, v.state(2), "free sectors");
        c.is(4, v.create(1, 2, false), "create with room in the END");
        v.shorten(3, v.length(3) - 8);
        int before = v.state(1);
        c.fails(IllegalStateException.class, () -> v.create(1, 3, false), "create that needs two sectors");
        c.written(v, before, "by nobody");
        c.is(1, v.state(2), "free sectors");
    }

    /**
     * "else to bytes 4 .. 7 of the END (USED 8 then), if that is not the leader and has at most 4 USED, else into a
     * new page (USED 4)": a file of each length is made a directory, so that the END has each USED.
     */
    private static void roomInTheEnd() {
        for (int used = 0; used <= 8; used++) {
            LabelledVolume v = Volumes.withFile(used);
            v.spoil(3, 2, 1);
            int free = v.state(2);
            int leader = used == 0 ? 5 : 6;
            c.is(4, v.create(3, 500, false), "create behind " + used + " bytes");
            c.label(v, leader, 4, 0, 8, -1, -1);
            if (used >= 1 && used <= 4) {
                c.is(free - 1, v.state(2), "free sectors, with an entry behind " + used + " bytes");
                isInTheEnd(v, used);
            } else {
                c.is(free - 2, v.state(2), "free sectors, with an entry behind " + used + " bytes");
                isInANewPage(v, used, leader);
            }
        }
    }

    private static void isInTheEnd(LabelledVolume v, int used) {
        c.label(v, 5, 3, 1, 8, -1, 3);
        int[] entry = {1, 244, 4, 6};
        for (int i = 0; i < 4; i++) {
            c.is(i < used ? i + 1 : 0, v.data(5, i), "byte " + i + " of the END");
            c.is(entry[i], v.data(5, 4 + i), "byte " + i + " of the entry");
        }
        c.is(5, v.data(3, 3), "hint of the directory's leader");
    }

    private static void isInANewPage(LabelledVolume v, int used, int leader) {
        int end = used == 0 ? 3 : 5;
        c.label(v, leader + 1, 3, used == 0 ? 1 : 2, 4, -1, end);
        c.data(v, leader + 1, 1, 244, 4, leader, 0, 0, 0, 0);
        c.is(leader + 1, v.label(end, 3), "NEXT of the END");
        c.is(used == 0 ? 8 : used, v.label(end, 2), "USED of the END");
        c.is(leader + 1, v.data(3, 3), "hint of the directory's leader");
    }

    /** "An entry comes into the first hole (its page)": in whichever page that is. */
    private static void firstHoleOfSeveral() {
        for (int hole = 0; hole < 5; hole++) {
            LabelledVolume v = Volumes.withFiles(5);
            for (int name = hole + 1; name <= 5; name++) {
                v.remove(1, name);
            }
            int written = v.state(1);
            int free = v.state(2);
            c.is(hole + 3, v.create(1, 100 + hole, false), "create with the first hole " + hole);
            c.is(100 + hole, v.entry(1, hole, 0), "name in the first hole " + hole);
            c.is(hole + 3, v.entry(1, hole, 1), "serial in the first hole " + hole);
            if (hole < 4) {
                c.is(0, v.entry(1, hole + 1, 1), "serial in the second hole");
            }
            c.written(v, written + 3, "leader, entry, map");
            c.is(free - 1, v.state(2), "free sectors");
            c.is(20, v.length(1), "length of the root");
        }
    }

    private static void rootIsADirectoryWhateverItsKind() {
        LabelledVolume v = new LabelledVolume();
        v.spoil(0, 2, 0);
        c.is(3, v.create(1, 1, false), "create in a root of KIND 0");
    }

    /** "its leader is remembered at the end." */
    private static void remembersTheNewLeader() {
        LabelledVolume v = new LabelledVolume();
        v.create(1, 1, false);
        v.scratch(3);
        c.fails(NoSuchElementException.class, () -> v.length(3), "length without a leader");
        c.misses(v, 1, "of the remembered leader");
        c.fails(NoSuchElementException.class, () -> v.length(3), "length again");
        c.misses(v, 1, "as nothing is remembered then");
    }

    private static void withoutPower() {
        LabelledVolume v = new LabelledVolume();
        v.charge(0);
        c.fails(UnsupportedOperationException.class, () -> v.create(1, 1, false), "create with charge 0");
        v.spoil(0, 3, 99);
        c.fails(UnsupportedOperationException.class, () -> v.create(99, 0, false), "create without power");
        c.misses(v, 0, "as nothing is looked at without power");
        c.is(2, v.scavenge(), "scavenge");
        c.is(3, v.create(1, 1, false), "create with power again");
    }
}
