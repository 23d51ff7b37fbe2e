/** Promise 11: charge. What POWER means for each call is in PowerTest. */
public final class ChargeTest {
    private static final Check c = new Check();

    public static void main(String[] args) {
        countsSectors();
        isSetAnew();
        wrongInputs();
        c.end();
    }

    /** "n more sectors are written." */
    private static void countsSectors() {
        LabelledVolume v = Volumes.withFile(1);
        v.charge(3);
        v.write(3, 0, 1);
        v.write(3, 0, 2);
        v.write(3, 0, 3);
        c.is(1, v.state(4), "power when the charge is used up");
        c.is(3, v.read(3, 0), "read when the charge is used up");
        int before = v.state(1);
        c.fails(UnsupportedOperationException.class, () -> v.write(3, 0, 4), "write beyond the charge");
        c.written(v, before, "by the writing that was not");
        c.is(0, v.state(4), "power");
        c.is(3, v.data(5, 0), "the byte that was not written");
        c.fails(UnsupportedOperationException.class, () -> v.read(3, 0), "read without power");
    }

    private static void isSetAnew() {
        LabelledVolume v = Volumes.withFile(1);
        v.charge(0);
        v.charge(2);
        v.write(3, 0, 1);
        v.charge(1);
        v.write(3, 0, 2);
        c.fails(UnsupportedOperationException.class, () -> v.write(3, 0, 3), "write beyond the charge");
        c.fails(UnsupportedOperationException.class, () -> v.charge(5), "charge without power");
        v.scavenge();
        v.charge(99);
        for (int n = 0; n < 99; n++) {
            v.write(3, 0, n);
        }
        c.fails(UnsupportedOperationException.class, () -> v.write(3, 0, 0), "the hundredth write");
    }

    /** "IllegalArgumentException: n is not 0 .. 99." */
    private static void wrongInputs() {
        LabelledVolume v = new LabelledVolume();
        v.charge(4);
        int[] none = {-1, 100, Integer.MAX_VALUE, Integer.MIN_VALUE};
        for (int n : none) {
            c.fails(IllegalArgumentException.class, () -> v.charge(n), "charge(" + n + ")");
        }
        c.is(3, v.create(1, 1, false), "create with the charge as it was");
        c.fails(UnsupportedOperationException.class, () -> v.write(3, 0, 0), "write beyond it");
    }
}
