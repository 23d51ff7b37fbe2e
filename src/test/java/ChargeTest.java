/** Promise 11: charge, with POWER. */
public final class ChargeTest {
    private static final Check c = new Check();

    public static void main(String[] args) {
        countsSectors();
        isSetAnew();
        wrongInputs();
        callsThatNeedNoPower();
        c.end();
    }

    private static void countsSectors() {
        LabelledVolume v = Volumes.withFile(1);
        v.charge(3);
        v.write(3, 0, 1);
        v.write(3, 0, 2);
        v.write(3, 0, 3);
        c.is(1, v.state(4), "power when the charge is used up");
        c.is(3, v.read(3, 0), "read when the charge is used up");
        int before = v.state(1);
        c.fails(UnsupportedOperationException.class, () -> v.write(3, 0, 4), "write beyond the charge");
        c.written(v, before, "by the writing that was not");
        c.is(0, v.state(4), "power");
        c.is(3, v.data(5, 0), "the byte that was not written");
        c.fails(UnsupportedOperationException.class, () -> v.read(3, 0), "read without power");
    }

    private static void isSetAnew() {
        LabelledVolume v = Volumes.withFile(1);
        v.charge(0);
        v.charge(2);
        v.write(3, 0, 1);
        v.charge(1);
        v.write(3, 0, 2);
        c.fails(UnsupportedOperationException.class, () -> v.write(3, 0, 3), "write beyond the charge");
        c.fails(UnsupportedOperationException.class, () -> v.charge(5), "charge without power");
        v.scavenge();
        v.charge(99);
        for (int n = 0; n < 99; n++) {
            v.write(3, 0, n);
        }
        c.fails(UnsupportedOperationException.class, () -> v.write(3, 0, 0), "the hundredth write");
    }

    private static void wrongInputs() {
        LabelledVolume v = new LabelledVolume();
        v.charge(4);
        int[] none = {-1, 100, Integer.MAX_VALUE, Integer.MIN_VALUE};
        for (int n : none) {
            c.fails(IllegalArgumentException.class, () -> v.charge(n), "charge(" + n + ")");
        }
        c.is(3, v.create(1, 1, false), "create with the charge as it was");
        c.fails(UnsupportedOperationException.class, () -> v.write(3, 0, 0), "write beyond it");
    }

    private static void callsThatNeedNoPower() {
        LabelledVolume v = Volumes.withFile(1);
        v.charge(0);
        c.fails(UnsupportedOperationException.class, () -> v.write(3, 0, 0), "write beyond the charge");
        c.is(3, v.label(3, 0), "label");
        c.is(1, v.data(3, 1), "data");
        c.is(0, v.report(0), "report");
        c.is(true, v.spoil(5, 0, 9), "spoil");
        c.is(true, v.ghost(5, 30), "ghost");
        c.is(true, v.scratch(30), "scratch");
        c.is(1, v.state(3), "state");
        c.is(3, v.scavenge(), "scavenge");
        c.is(9, v.read(3, 0), "read with power again");
    }
}
