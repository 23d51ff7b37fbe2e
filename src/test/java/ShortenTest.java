import java.util.NoSuchElementException;

/** Promise 6: shorten, with SHORTENING. */
public final class ShortenTest {
    private static final Check c = new Check();

    public static void main(String[] args) {
        toEachLength();
        toTheLength();
        withinThePage();
        toAPageBoundary();
        overPages();
        toNothing();
        orderOfWriting();
        linksAreHints();
        wrongInputs();
        broken();
        mapOnlyWhenPagesBecomeFree();
        mapOverSeveralCalls();
        leaderThatIsElsewhere();
        leaderThatIsAnotherSector();
        ghostThatIsAhead();
        orderWithTwoLeaders();
        twoLeadersAndAPageLeft();
        c.end();
    }

    /** "the pages above n / 8, rounded up, become free", "USED what is left, the data behind that 0". */
    private static void toEachLength() {
        for (int length = 0; length <= 24; length++) {
            for (int n = 0; n <= length; n++) {
                shorten(length, n);
            }
        }
    }

    private static void shorten(int length, int n) {
        String what = " of " + length + " bytes shortened to " + n;
        LabelledVolume v = Volumes.withFile(length);
        int written = v.state(1);
        v.shorten(3, n);
        int had = (length + 7) / 8;
        int has = (n + 7) / 8;
        c.is(n, v.length(3), "length" + what);
        c.is(35 - has, v.state(2), "free sectors" + what);
        int due = n == length ? 0 : had == has ? 1 : had - has + (has == 0 ? 2 : 3);
        c.written(v, written + due, what);
        c.is(has == 0 ? 3 : 4 + has, v.data(3, 3), "hint of the leader" + what);
        c.is(has == 0 ? -1 : 5, v.label(3, 3), "NEXT of the leader" + what);
        for (int i = 0; i < 24; i++) {
            c.is(i < n ? i + 1 : 0, v.data(5 + i / 8, i % 8), "byte " + i + what);
        }
        for (int page = 1; page <= has; page++) {
            int used = page < has ? 8 : n - 8 * (page - 1);
            c.label(v, 4 + page, 3, page, used, page < has ? 5 + page : -1, page == 1 ? 3 : 3 + page);
        }
        for (int page = has + 1; page <= 3; page++) {
            c.label(v, 4 + page, 0, 0, 0, -1, -1);
        }
        c.misses(v, 0, "when all hints are right");
    }

    /** "nothing if n is the length". */
    private static void toTheLength() {
        int[] lengths = {0, 1, 7, 8, 9, 16};
        for (int length : lengths) {
            LabelledVolume v = Volumes.withFile(length);
            v.scratch(1);
            v.charge(0);
            String before = Volumes.picture(v);
            int written = v.state(1);
            v.shorten(3, length);
            c.written(v, written, "by shortening to the length " + length);
            c.is(1, v.state(4), "power");
            c.misses(v, 0, "as the map is not looked for");
            c.note(before.equals(Volumes.picture(v)), "shortening to the length changed a sector");
        }
    }

    /** "If no page becomes free, the last page is written alone". */
    private static void withinThePage() {
        LabelledVolume v = Volumes.withFile(20);
        int before = v.state(1);
        v.shorten(3, 20);
        c.written(v, before, "by shortening to the length");
        v.shorten(3, 17);
        c.written(v, before + 1, "by shortening within the last page");
        c.label(v, 7, 3, 3, 1, -1, 6);
        c.data(v, 7, 17, 0, 0, 0, 0, 0, 0, 0);
        c.is(17, v.length(3), "length");
    }

    private static void toAPageBoundary() {
        LabelledVolume v = Volumes.withFile(20);
        int before = v.state(1);
        v.shorten(3, 16);
        c.written(v, before + 4, "freed page, last page, leader, map");
        c.label(v, 7, 0, 0, 0, -1, -1);
        c.data(v, 7, 0, 0, 0, 0, 0, 0, 0, 0);
        c.label(v, 6, 3, 2, 8, -1, 5);
        c.data(v, 6, 9, 10, 11, 12, 13, 14, 15, 16);
        c.is(6, v.data(3, 3), "hint of the leader");
        c.is(128, v.data(2, 0), "map");
        c.is(16, v.length(3), "length");
    }

    private static void overPages() {
        LabelledVolume v = Volumes.withFile(20);
        int before = v.state(1);
        v.shorten(3, 3);
        c.written(v, before + 5, "two freed pages, last page, leader, map");
        c.label(v, 5, 3, 1, 3, -1, 3);
        c.data(v, 5, 1, 2, 3, 0, 0, 0, 0, 0);
        c.is(0, v.label(6, 0), "page 2 is free");
        c.is(0, v.label(7, 0), "page 3 is free");
        c.is(34, v.state(2), "free sectors");
        c.is(192, v.data(2, 0), "map");
        c.misses(v, 0, "with right hints");
    }

    /** "the leader also with its own sector as the hint": it is written once. */
    private static void toNothing() {
        LabelledVolume v = Volumes.withFile(9);
        int before = v.state(1);
        v.shorten(3, 0);
        c.written(v, before + 4, "two freed pages, leader, map");
        c.label(v, 3, 3, 0, 8, -1, -1);
        c.data(v, 3, 0, 1, 0, 3);
        c.is(0, v.length(3), "length");
        v.shorten(3, 0);
        c.written(v, before + 4, "nothing more");
    }

    /**
     * "become free, the last one first", "then the page that is last then is written", "then, if that is another
     * sector, the leader with its hint", and the map at the end.
     */
    private static void orderOfWriting() {
        for (int charge = 0; charge <= 5; charge++) {
            LabelledVolume v = Volumes.withFile(20);
            v.charge(charge);
            if (charge < 5) {
                c.fails(UnsupportedOperationException.class, () -> v.shorten(3, 5), "shorten, charge " + charge);
            } else {
                v.shorten(3, 5);
            }
            c.is(charge > 0 ? 0 : 3, v.label(7, 0), "serial of page 3, charge " + charge);
            c.is(charge > 1 ? 0 : 3, v.label(6, 0), "serial of page 2, charge " + charge);
            c.is(charge > 2 ? 5 : 8, v.label(5, 2), "USED of page 1, charge " + charge);
            c.is(charge > 3 ? 5 : 7, v.data(3, 3), "hint of the leader, charge " + charge);
            c.is(charge > 4 ? 192 : 0, v.data(2, 0), "map, charge " + charge);
        }
    }

    /** "each ahead of the one behind it": by BEFORE, and by searching where that is missed. */
    private static void linksAreHints() {
        LabelledVolume v = Volumes.withFile(20);
        v.ghost(6, 30);
        v.scratch(6);
        v.shorten(3, 16);
        c.misses(v, 1, "of page 2 by BEFORE");
        c.label(v, 30, 3, 2, 8, -1, 5);
        c.is(30, v.data(3, 3), "hint of the leader");
        v.spoil(2, 3, 0);
        v.shorten(3, 8);
        c.misses(v, 1, "of page 2 alone");
        c.is(0, v.label(30, 0), "the ghost is free");
        c.is(64, v.data(2, 3), "the ghost's bit is set");
    }

    private static void wrongInputs() {
        LabelledVolume v = Volumes.withFile(9);
        v.create(1, 2, true);
        String before = Volumes.picture(v);
        int[] noFile = {-1, 0, 5, 61};
        for (int file : noFile) {
            c.fails(NoSuchElementException.class, () -> v.shorten(file, 0), "shorten no file " + file);
        }
        int[] noPlainFile = {1, 2, 4};
        for (int file : noPlainFile) {
            c.fails(IllegalArgumentException.class, () -> v.shorten(file, -1), "shorten file " + file);
        }
        int[] noLength = {-1, 10, Integer.MAX_VALUE, Integer.MIN_VALUE};
        for (int n : noLength) {
            c.fails(IndexOutOfBoundsException.class, () -> v.shorten(3, n), "shorten to " + n);
        }
        c.is(true, before.equals(Volumes.picture(v)), "nothing is changed by what throws");
        v.charge(0);
        v.shorten(3, 9);
        c.is(1, v.state(4), "power, as nothing was written");
        c.fails(UnsupportedOperationException.class, () -> v.shorten(3, 8), "shorten with charge 0");
        c.fails(UnsupportedOperationException.class, () -> v.shorten(99, 0), "shorten without power");
    }

    /** "(they, and the page that is last then, were found before anything is written". */
    private static void broken() {
        LabelledVolume v = Volumes.withFile(20);
        v.scratch(6);
        String before = Volumes.picture(v);
        c.fails(IllegalStateException.class, () -> v.shorten(3, 16), "shorten to a page that is not there");
        c.is(true, before.equals(Volumes.picture(v)), "nothing is changed");
        v.shorten(3, 18);
        c.is(18, v.length(3), "length within the last page");
        v.spoil(3, 3, 99);
        c.fails(IllegalStateException.class, () -> v.shorten(3, -1), "broken goes before a wrong length");
    }

    private static void mapOnlyWhenPagesBecomeFree() {
        LabelledVolume v = Volumes.withFile(20);
        v.scratch(2);
        v.shorten(3, 17);
        c.misses(v, 0, "as the map's page is not looked for");
        int before = v.state(1);
        v.shorten(3, 16);
        c.misses(v, 1, "of the map's page");
        c.written(v, before + 3, "without the map");

        LabelledVolume w = Volumes.withFile(20);
        w.spoil(2, 0, 128);
        int written = w.state(1);
        w.shorten(3, 16);
        c.written(w, written + 3, "without the map, which does not change");
    }

    private static void mapOverSeveralCalls() {
        LabelledVolume v = Volumes.withFile(16);
        v.spoil(2, 0, 129);
        v.shorten(3, 0);
        c.is(225, v.data(2, 0), "map with two bits more, and a wrong one that is left");
        v.write(3, 0, 1);
        c.is(192, v.data(2, 0), "map when one of them is taken, and the wrong one is missed");
        c.misses(v, 1, "of the wrong bit");
        v.shorten(3, 0);
        c.is(224, v.data(2, 0), "map when it is free again");
        Volumes.append(v, 3, 9);
        c.is(128, v.data(2, 0), "map when both are taken");
    }

    /** "(they, and the page that is last then, were found .., each ahead of the one behind it)": so is page 0. */
    private static void leaderThatIsElsewhere() {
        LabelledVolume v = Volumes.withFile(8);
        v.ghost(3, 30);
        v.scratch(3);
        v.shorten(3, 0);
        c.misses(v, 2, "of the remembered leader, and of it by BEFORE");
        c.label(v, 30, 3, 0, 8, -1, -1);
        c.is(30, v.data(30, 3), "hint of the leader to itself");
    }

    /**
     * "the leader also with its own sector as the hint", "then, if that is another sector, the leader with its
     * hint": the leader is the sector that was found for it, not each one whose label says page 0.
     */
    private static void leaderThatIsAnotherSector() {
        int[] ghosts = {20, 30, 39};
        for (int ghost : ghosts) {
            LabelledVolume v = withGhostAsLeader(8, ghost);
            v.spoil(3, 3, 77);
            v.spoil(3, 7, 78);
            int before = v.state(1);
            v.shorten(3, 0);
            c.written(v, before + 4, "freed page, page 0, leader, map");
            c.label(v, 3, 3, 0, 8, -1, -1);
            c.data(v, 3, 0, 1, 0, 77, 0, 0, 0, 78);
            c.label(v, ghost, 3, 0, 8, 5, -1);
            c.data(v, ghost, 0, 1, 0, 3, 0, 0, 0, 0);
            c.misses(v, 0, "by hints that the labels agree with");
            c.is(0, v.length(3), "length by the leader's hint of page 0");
        }
    }

    /** File 3 with its leader in sector 3, and a ghost of it that is remembered as the leader. */
    private static LabelledVolume withGhostAsLeader(int bytes, int ghost) {
        LabelledVolume v = Volumes.withFile(bytes);
        v.ghost(3, ghost);
        v.spoil(4, 3, ghost);
        c.is(3, v.open(1, 1), "open, that remembers the ghost");
        return v;
    }

    /** The same sentences: the ghost is the page ahead of page 1, the leader the sector below it. */
    private static void ghostThatIsAhead() {
        LabelledVolume v = Volumes.withFile(0);
        v.ghost(3, 30);
        v.spoil(3, 3, 30);
        v.write(3, 0, 1);
        c.label(v, 5, 3, 1, 1, -1, 30);
        v.shorten(3, 0);
        c.label(v, 30, 3, 0, 8, -1, -1);
        c.data(v, 30, 0, 1, 0, 3, 0, 0, 0, 0);
        c.label(v, 3, 3, 0, 8, -1, -1);
        c.data(v, 3, 0, 1, 0, 30, 0, 0, 0, 0);
        c.misses(v, 0, "by hints that the labels agree with");
    }

    /** The same sentences, writing by writing: the page, page 0 with NEXT alone, the leader's hint, the map. */
    private static void orderWithTwoLeaders() {
        for (int charge = 0; charge <= 4; charge++) {
            LabelledVolume v = withGhostAsLeader(8, 20);
            v.charge(charge);
            if (charge < 4) {
                c.fails(UnsupportedOperationException.class, () -> v.shorten(3, 0), "shorten, charge " + charge);
            } else {
                v.shorten(3, 0);
            }
            c.is(charge > 0 ? 0 : 3, v.label(5, 0), "serial of page 1, charge " + charge);
            c.is(charge > 1 ? -1 : 5, v.label(3, 3), "NEXT of page 0, charge " + charge);
            c.is(5, v.data(3, 3), "hint in page 0, charge " + charge);
            c.is(5, v.label(20, 3), "NEXT of the leader, charge " + charge);
            c.is(charge > 2 ? 3 : 5, v.data(20, 3), "hint of the leader, charge " + charge);
            c.is(charge > 3 ? 224 : 192, v.data(2, 0), "map, charge " + charge);
        }
    }

    /** The same sentences: where a page from 1 on is last then, page 0 that is not the leader is not written. */
    private static void twoLeadersAndAPageLeft() {
        LabelledVolume v = withGhostAsLeader(16, 20);
        v.spoil(3, 3, 77);
        v.shorten(3, 8);
        c.label(v, 3, 3, 0, 8, 5, -1);
        c.is(77, v.data(3, 3), "hint in page 0, which is not the leader");
        c.label(v, 20, 3, 0, 8, 5, -1);
        c.is(5, v.data(20, 3), "hint of the leader");
        c.label(v, 5, 3, 1, 8, -1, 3);
    }
}
