/** Promise 1: a new object. */
public final class NewVolumeTest {
    public static void main(String[] args) {
        Check c = new Check();
        LabelledVolume v = new LabelledVolume();

        c.label(v, 0, 1, 0, 8, -1, -1);
        c.data(v, 0, 0, 0, 1, 0, 0, 0, 0, 0);
        c.label(v, 1, 2, 0, 8, 2, -1);
        c.data(v, 1, 0, 0, 0, 2, 0, 0, 0, 0);
        c.label(v, 2, 2, 1, 5, -1, 1);
        c.data(v, 2, 248, 255, 255, 255, 255, 0, 0, 0);
        for (int sector = 3; sector < 40; sector++) {
            c.label(v, sector, 0, 0, 0, -1, -1);
            c.data(v, sector, 0, 0, 0, 0, 0, 0, 0, 0);
        }

        c.is(0, v.state(0), "misses");
        c.is(0, v.state(1), "sectors written");
        c.is(37, v.state(2), "free sectors");
        c.is(0, v.state(3), "unreadable sectors");
        c.is(1, v.state(4), "power");
        for (int what = 0; what < 5; what++) {
            c.is(0, v.report(what), "report(" + what + ")");
        }
        c.is(0, v.length(1), "length of the root");
        c.is(5, v.length(2), "length of the map");

        LabelledVolume bare = new LabelledVolume();
        bare.scratch(0);
        bare.scratch(1);
        c.fails(java.util.NoSuchElementException.class, () -> bare.length(1), "length of a root without a leader");
        c.fails(java.util.NoSuchElementException.class, () -> bare.length(2), "length of a map without a leader");
        c.misses(bare, 0, "as nothing was remembered");
        c.end();
    }
}
