import java.util.List;
import java.util.function.Consumer;
import java.util.function.Supplier;

/** POWER: how many sectors a charge is for, and what the calls do without power. */
public final class PowerTest {
    private static final Check c = new Check();

    public static void main(String[] args) {
        chargeOfEachCall();
        callsThatWriteNothing();
        withoutAChargeThereIsNoEnd();
        withoutPowerAllThrowAtOnce();
        callsThatNeedNoPower();
        scavengingTakesNoCharge();
        scavengingBringsPower();
        c.end();
    }

    /** "after charge(n) n more sectors are written; the next one is not, and the power is gone". */
    private static void chargeOfEachCall() {
        writes(1, () -> Volumes.withFile(9), v -> v.write(3, 0, 7), "write within the length");
        writes(1, () -> Volumes.withFile(9), v -> v.write(3, 9, 7), "write where there is room");
        writes(3, () -> Volumes.withFile(0), v -> v.write(3, 0, 7), "write of the first byte");
        writes(4, () -> Volumes.withFile(8), v -> v.write(3, 8, 7), "write with a new page");
        writes(1, () -> Volumes.withFile(8), v -> v.shorten(3, 1), "shorten within the page");
        writes(4, () -> Volumes.withFile(9), v -> v.shorten(3, 8), "shorten to a whole page");
        writes(4, () -> Volumes.withFile(9), v -> v.shorten(3, 3), "shorten by a page");
        writes(4, () -> Volumes.withFile(16), v -> v.shorten(3, 0), "shorten to nothing");
        writes(4, () -> new LabelledVolume(), v -> v.create(1, 1, false), "create with a first page");
        writes(3, () -> Volumes.withFiles(1), v -> v.create(1, 2, true), "create where there is room");
        writes(5, () -> Volumes.withFiles(2), v -> v.create(1, 3, true), "create with a new page");
        writes(3, () -> withHole(), v -> v.create(1, 3, true), "create in a hole");
        writes(3, () -> Volumes.withFile(0), v -> v.remove(1, 1), "remove of a leader alone");
        writes(5, () -> Volumes.withFile(16), v -> v.remove(1, 1), "remove of three sectors");
    }

    private static LabelledVolume withHole() {
        LabelledVolume v = Volumes.withFiles(2);
        v.remove(1, 1);
        return v;
    }

    /** An act that writes so many sectors does so with a charge for them, and is cut off by each lower one. */
    private static void writes(int sectors, Supplier<LabelledVolume> maker, Consumer<LabelledVolume> act, String what) {
        LabelledVolume v = maker.get();
        int before = v.state(1);
        v.charge(sectors);
        act.accept(v);
        c.written(v, before + sectors, "by " + what);
        c.is(1, v.state(4), "power behind " + what);
        c.fails(UnsupportedOperationException.class, () -> v.create(1, 77, false), "one more sector behind " + what);
        c.written(v, before + sectors, "by " + what + ", and no more");
        c.is(0, v.state(4), "power when one more was to be written");
        for (int charge = 0; charge < sectors; charge++) {
            isCutOff(charge, maker, act, what + ", charge " + charge);
        }
    }

    /** "what it wrote stays", "WRITTEN label and data in one act": so many sectors are as they were to be. */
    private static void isCutOff(int charge, Supplier<LabelledVolume> maker, Consumer<LabelledVolume> act,
            String what) {
        LabelledVolume whole = maker.get();
        String[] before = Volumes.picture(whole).split("\n");
        act.accept(whole);
        String[] due = Volumes.picture(whole).split("\n");

        LabelledVolume v = maker.get();
        int written = v.state(1);
        v.charge(charge);
        c.fails(UnsupportedOperationException.class, () -> act.accept(v), what);
        c.written(v, written + charge, "by " + what);
        c.is(0, v.state(4), "power behind " + what);
        String[] after = Volumes.picture(v).split("\n");
        int changed = 0;
        for (int sector = 0; sector < after.length; sector++) {
            if (!after[sector].equals(before[sector])) {
                changed++;
                c.note(after[sector].equals(due[sector]), what + ": sector " + sector + " is half written");
            }
        }
        c.is(charge, changed, "sectors changed by " + what);
    }

    /** The same: a charge of 0 is enough for what writes nothing. */
    private static void callsThatWriteNothing() {
        LabelledVolume v = Volumes.withFile(9);
        v.create(1, 2, false);
        v.charge(0);
        v.shorten(3, 9);
        v.shorten(4, 0);
        c.is(3, v.open(1, 1), "open");
        c.is(9, v.read(3, 8), "read");
        c.is(9, v.length(3), "length");
        c.is(3, v.entry(1, 0, 1), "entry");
        c.is(true, v.spoil(6, 0, 8), "spoil, which is no writing");
        c.is(true, v.ghost(6, 30), "ghost, which is no writing");
        c.is(true, v.scratch(30), "scratch");
        c.is(1, v.state(4), "power");
        v.charge(1);
        v.write(3, 0, 1);
        c.is(1, v.state(4), "power with a new charge");
    }

    /** Before the first charge(n), and behind a scavenging, any number of sectors is written. */
    private static void withoutAChargeThereIsNoEnd() {
        LabelledVolume v = Volumes.withFile(1);
        for (int n = 0; n < 150; n++) {
            v.write(3, 0, n);
        }
        v.charge(99);
        v.scavenge();
        for (int n = 0; n < 150; n++) {
            v.write(3, 0, n);
        }
        c.is(1, v.state(4), "power");
        c.is(149, v.read(3, 0), "the byte that was written last");
    }

    private static LabelledVolume withoutPower() {
        LabelledVolume v = Volumes.withFile(9);
        v.charge(0);
        c.fails(UnsupportedOperationException.class, () -> v.write(3, 0, 5), "write with charge 0");
        c.is(1, v.data(5, 0), "the byte that was not written");
        return v;
    }

    /** "Without power all calls that say so throw it at once." */
    private static void withoutPowerAllThrowAtOnce() {
        LabelledVolume v = withoutPower();
        v.spoil(3, 3, 99);
        v.spoil(4, 3, 99);
        v.scratch(2);
        String before = Volumes.picture(v);
        int written = v.state(1);
        List<Consumer<LabelledVolume>> acts = List.of(
            x -> x.create(1, 2, false), x -> x.create(9, 0, true), x -> x.create(3, 1, false),
            x -> x.open(1, 1), x -> x.open(9, 1), x -> x.open(3, 1),
            x -> x.read(3, 0), x -> x.read(9, 0), x -> x.read(3, -1),
            x -> x.write(3, 0, 1), x -> x.write(9, 0, 1), x -> x.write(2, 0, 1), x -> x.write(3, 99, 1),
            x -> x.shorten(3, 9), x -> x.shorten(9, 0), x -> x.shorten(1, 0), x -> x.shorten(3, -1),
            x -> x.remove(1, 1), x -> x.remove(9, 1), x -> x.remove(3, 1),
            x -> x.length(3), x -> x.length(9),
            x -> x.entry(1, 0, 0), x -> x.entry(9, 0, 0), x -> x.entry(1, 0, 9), x -> x.entry(1, -1, 0),
            x -> x.charge(0), x -> x.charge(99));
        for (Consumer<LabelledVolume> act : acts) {
            c.fails(UnsupportedOperationException.class, () -> act.accept(v), "act " + acts.indexOf(act));
        }
        c.misses(v, 0, "as nothing is looked at without power");
        c.written(v, written, "without power");
        c.note(before.equals(Volumes.picture(v)), "a call without power changed a sector");
    }

    /** The same: the calls that do not say so do what they do. */
    private static void callsThatNeedNoPower() {
        LabelledVolume v = withoutPower();
        c.is(3, v.label(3, 0), "label");
        c.is(1, v.data(5, 0), "data");
        c.is(0, v.report(0), "report");
        c.is(true, v.spoil(5, 0, 9), "spoil");
        c.is(true, v.ghost(5, 30), "ghost");
        c.is(true, v.scratch(30), "scratch");
        c.is(1, v.state(3), "state");
        c.is(0, v.state(4), "power");
        c.is(3, v.scavenge(), "scavenge");
    }

    /** "counts as written once; this takes no charge", "no charge". */
    private static void scavengingTakesNoCharge() {
        LabelledVolume v = Volumes.withFile(9);
        v.charge(0);
        v.spoil(3, 3, 99);
        v.spoil(2, 0, 99);
        c.is(3, v.scavenge(), "scavenge with charge 0");
        c.is(2, v.report(4), "sectors written by it");
        c.is(1, v.state(4), "power");
        v.write(3, 0, 5);
        c.is(5, v.read(3, 0), "the byte written behind it, as there is no charge");
    }

    /** "power is there again". */
    private static void scavengingBringsPower() {
        LabelledVolume v = withoutPower();
        c.is(3, v.scavenge(), "scavenge without power");
        c.is(1, v.state(4), "power");
        v.charge(1);
        v.write(3, 0, 5);
        c.fails(UnsupportedOperationException.class, () -> v.write(3, 0, 6), "write beyond the new charge");
        c.is(5, v.data(5, 0), "the byte that was written");
    }
}
