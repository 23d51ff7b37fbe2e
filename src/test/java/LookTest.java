/** Promises 15 to 18: label, data, state, report. */
public final class LookTest {
    private static final Check c = new Check();

    public static void main(String[] args) {
        label();
        data();
        state();
        report();
        c.end();
    }

    /**
     * "Of a label: 0 the serial, 1 the page, 2 USED, 3 NEXT, 4 BEFORE; -1 if the sector is unreadable, or there is
     * none such."
     */
    private static void label() {
        LabelledVolume v = Volumes.withFile(9);
        c.label(v, 5, 3, 1, 8, 6, 3);
        c.label(v, 6, 3, 2, 1, -1, 5);
        c.label(v, 7, 0, 0, 0, -1, -1);
        int[] none = {-1, 5, 6, 12, Integer.MAX_VALUE, Integer.MIN_VALUE};
        for (int what : none) {
            c.is(-1, v.label(5, what), "label(5, " + what + ")");
        }
        int[] noSector = {-1, 40, Integer.MAX_VALUE, Integer.MIN_VALUE};
        for (int sector : noSector) {
            c.is(-1, v.label(sector, 0), "label(" + sector + ", 0)");
        }
        v.scratch(5);
        c.label(v, 5, -1, -1, -1, -1, -1);
    }

    /** "Byte i of a sector's data, 0 .. 255; -1 if the sector is unreadable, or there is none such." */
    private static void data() {
        LabelledVolume v = Volumes.withFile(0);
        v.write(3, 0, 255);
        c.data(v, 5, 255, 0, 0, 0, 0, 0, 0, 0);
        int[] none = {-1, -5, 8, Integer.MAX_VALUE, Integer.MIN_VALUE};
        for (int i : none) {
            c.is(-1, v.data(5, i), "data(5, " + i + ")");
        }
        int[] noSector = {-1, 40, Integer.MAX_VALUE, Integer.MIN_VALUE};
        for (int sector : noSector) {
            c.is(-1, v.data(sector, 0), "data(" + sector + ", 0)");
        }
        c.is(0, v.data(39, 7), "data of a free sector");
        v.scratch(5);
        c.is(-1, v.data(5, 0), "data of an unreadable sector");
    }

    /**
     * "0 how many misses there were, 1 how many sectors were written, 2 how many are free, 3 how many are unreadable,
     * 4 the power (1, or 0 without); -1 for another what."
     */
    private static void state() {
        LabelledVolume v = Volumes.withFile(9);
        v.spoil(3, 3, 40);
        v.length(3);
        v.scratch(39);
        c.is(1, v.state(0), "misses");
        c.is(18, v.state(1), "sectors written");
        c.is(32, v.state(2), "free sectors");
        c.is(1, v.state(3), "unreadable sectors");
        c.is(1, v.state(4), "power");
        v.charge(0);
        c.fails(UnsupportedOperationException.class, () -> v.write(3, 0, 0), "write with charge 0");
        c.is(0, v.state(4), "power");
        int[] none = {-1, 5, Integer.MAX_VALUE, Integer.MIN_VALUE};
        for (int what : none) {
            c.is(-1, v.state(what), "state(" + what + ")");
        }
    }

    /**
     * "0 the files that are there, 1 sectors lost, 2 leaders made (the root's and the map's, too), 3 files adopted, 4
     * sectors written; 0 if there was none, -1 for another what."
     */
    private static void report() {
        LabelledVolume v = Volumes.withFile(9);
        v.scratch(3);
        v.ghost(6, 30);
        for (int what = 0; what < 5; what++) {
            c.is(0, v.report(what), "report before any scavenging");
        }
        v.scavenge();
        int[] first = {3, 1, 1, 1, 5};
        for (int what = 0; what < 5; what++) {
            c.is(first[what], v.report(what), "report(" + what + ") of the first scavenging");
        }
        v.create(1, 2, false);
        c.is(3, v.report(0), "report until the next scavenging");
        v.scavenge();
        int[] second = {4, 0, 0, 0, 0};
        for (int what = 0; what < 5; what++) {
            c.is(second[what], v.report(what), "report(" + what + ") of the second scavenging");
        }
        int[] none = {-1, 5, Integer.MAX_VALUE, Integer.MIN_VALUE};
        for (int what : none) {
            c.is(-1, v.report(what), "report(" + what + ")");
        }
    }
}
