/** Promises 12 to 14: spoil, scratch, ghost. */
public final class DamageTest {
    private static final Check c = new Check();

    public static void main(String[] args) {
        spoil();
        spoilTakesEightBits();
        spoilOfEachByte();
        scratch();
        ghost();
        c.end();
    }

    /** "(this is no writing): true; false if there is no such byte or sector, or it is free or unreadable." */
    private static void spoil() {
        LabelledVolume v = Volumes.withFile(3);
        int before = v.state(1);
        c.is(true, v.spoil(5, 0, 0x1FE), "spoil of byte 0");
        c.is(true, v.spoil(5, 7, -1), "spoil of byte 7, behind what is used");
        c.data(v, 5, 0xFE, 2, 3, 0, 0, 0, 0, 255);
        c.label(v, 5, 3, 1, 3, -1, 3);
        c.is(0xFE, v.read(3, 0), "read of a spoilt byte");
        c.is(true, v.spoil(2, 0, 0), "spoil of the map");
        c.written(v, before, "as spoiling is no writing");
        c.is(false, v.spoil(5, 8, 0), "byte 8");
        c.is(false, v.spoil(5, -1, 0), "byte -1");
        c.is(false, v.spoil(40, 0, 0), "sector 40");
        c.is(false, v.spoil(-1, 0, 0), "sector -1");
        c.is(false, v.spoil(Integer.MAX_VALUE, 0, 0), "a sector far away");
        c.is(false, v.spoil(6, 0, 1), "a free sector");
        c.is(0, v.data(6, 0), "data of a free sector");
        v.scratch(5);
        c.is(false, v.spoil(5, 0, 1), "an unreadable sector");
    }

    /** "Byte i of a sector's data becomes the lowest eight bits of v". */
    private static void spoilTakesEightBits() {
        int[][] values = {{0, 0}, {127, 127}, {128, 128}, {255, 255}, {256, 0}, {257, 1}, {-1, 255}, {-128, 128},
            {-256, 0}, {Integer.MAX_VALUE, 255}, {Integer.MIN_VALUE, 0}};
        LabelledVolume v = Volumes.withFile(3);
        for (int[] value : values) {
            c.is(true, v.spoil(5, 1, value[0]), "spoil with " + value[0]);
            c.data(v, 5, 1, value[1], 3, 0, 0, 0, 0, 0);
            c.is(value[1], v.read(3, 1), "read of what was spoilt with " + value[0]);
        }
    }

    /** "whatever its label says": of a leader, a page, the root and the map, and behind what is USED. */
    private static void spoilOfEachByte() {
        for (int sector = 0; sector < 6; sector++) {
            LabelledVolume v = Volumes.withFile(3);
            int[] label = new int[5];
            for (int what = 0; what < 5; what++) {
                label[what] = v.label(sector, what);
            }
            for (int i = 0; i < 8; i++) {
                c.is(true, v.spoil(sector, i, 100 + i), "spoil of byte " + i + " of sector " + sector);
            }
            c.data(v, sector, 100, 101, 102, 103, 104, 105, 106, 107);
            c.label(v, sector, label);
        }
    }

    /** "A sector becomes unreadable: true; false if it is, or there is no such one." */
    private static void scratch() {
        LabelledVolume v = Volumes.withFile(3);
        int free = v.state(2);
        c.is(true, v.scratch(5), "scratch");
        c.is(false, v.scratch(5), "scratch again");
        c.is(true, v.scratch(39), "scratch of a free sector");
        c.is(false, v.scratch(40), "scratch of sector 40");
        c.is(false, v.scratch(-1), "scratch of sector -1");
        c.is(2, v.state(3), "unreadable sectors");
        c.is(free - 1, v.state(2), "free sectors");
        c.label(v, 5, -1, -1, -1, -1, -1);
        c.data(v, 5, -1, -1, -1, -1, -1, -1, -1, -1);
        c.label(v, 39, -1, -1, -1, -1, -1);
    }

    /**
     * "The free sector to becomes like from, label and data (this is no writing): true; false if there is no such
     * one, to is not free, or from is free or unreadable."
     */
    private static void ghost() {
        LabelledVolume v = Volumes.withFile(9);
        int before = v.state(1);
        c.is(true, v.ghost(5, 30), "ghost");
        c.label(v, 30, 3, 1, 8, 6, 3);
        c.data(v, 30, 1, 2, 3, 4, 5, 6, 7, 8);
        v.spoil(30, 0, 77);
        c.is(1, v.data(5, 0), "the other one stays as it is");
        c.is(true, v.ghost(30, 31), "ghost of a ghost");
        c.is(77, v.data(31, 0), "data of the ghost's ghost");
        c.written(v, before, "as a ghost is no writing");
        c.is(255, v.data(2, 3), "the map, which is not told");
        c.is(false, v.ghost(5, 30), "ghost onto what is not free");
        c.is(false, v.ghost(5, 5), "ghost onto itself");
        c.is(false, v.ghost(20, 21), "ghost of a free sector");
        c.is(false, v.ghost(-1, 21), "ghost of sector -1");
        c.is(false, v.ghost(40, 21), "ghost of sector 40");
        c.is(false, v.ghost(5, 40), "ghost onto sector 40");
        c.is(false, v.ghost(5, -1), "ghost onto sector -1");
        v.scratch(31);
        v.scratch(21);
        c.is(false, v.ghost(31, 22), "ghost of an unreadable sector");
        c.is(false, v.ghost(5, 21), "ghost onto an unreadable sector");
        c.label(v, 22, 0, 0, 0, -1, -1);
    }
}
