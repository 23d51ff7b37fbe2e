import java.util.NoSuchElementException;
import java.util.Random;

/**
 * Long runs of calls with much damage among them: nothing but what the document names is ever thrown, what
 * throws anything but for want of power changes no sector, and behind a scavenging all hints are right.
 */
public final class RandomRunsTest {
    private static final Check c = new Check();
    private static final int RUNS = 300;
    private static final int CALLS = 300;

    private LabelledVolume v = new LabelledVolume();
    private final Random random;

    private RandomRunsTest(long seed) {
        random = new Random(seed);
    }

    public static void main(String[] args) {
        for (int seed = 0; seed < RUNS; seed++) {
            new RandomRunsTest(seed).run(1 + seed % 4);
        }
        c.end();
    }

    private void run(int damage) {
        for (int n = 0; n < CALLS; n++) {
            if (random.nextInt(60) == 0) {
                scavenge();
            } else if (random.nextInt(40) < damage) {
                damage();
            } else {
                call();
            }
            countsAgree();
        }
        scavenge();
    }

    private int file() {
        return random.nextInt(10) == 0 ? random.nextInt(64) - 1 : 1 + random.nextInt(8);
    }

    private int name() {
        return random.nextInt(20) == 0 ? random.nextInt(12000) - 10 : 1 + random.nextInt(6);
    }

    private void damage() {
        int sector = random.nextInt(42) - 1;
        int kind = random.nextInt(10);
        if (kind == 0) {
            v.scratch(sector);
        } else if (kind < 4) {
            v.ghost(sector, random.nextInt(42) - 1);
        } else {
            v.spoil(random.nextInt(12), random.nextInt(10) - 1, random.nextInt(45));
        }
    }

    private void call() {
        String before = Volumes.picture(v);
        int written = v.state(1);
        boolean hadPower = v.state(4) == 1;
        String thrown = "";
        try {
            anyCall();
        } catch (UnsupportedOperationException | NoSuchElementException | IllegalArgumentException
                | IllegalStateException e) {
            thrown = e.getClass().getSimpleName();
        } catch (IndexOutOfBoundsException e) {
            // The document's own has no text; that of an array beyond its bounds has one.
            thrown = e.getClass().getSimpleName();
            c.is(true, e.getMessage() == null, "an index of the document's, not of an array");
        }
        boolean powerCut = hadPower && v.state(4) == 0;
        if (!hadPower && !thrown.isEmpty()) {
            c.is(true, thrown.equals("UnsupportedOperationException") || thrown.equals("IllegalArgumentException"),
                    "without power a call threw " + thrown);
        }
        if (!thrown.isEmpty() && !powerCut) {
            c.is(true, before.equals(Volumes.picture(v)), "a call that threw " + thrown + " changed nothing");
            c.written(v, written, "by a call that threw " + thrown);
        }
    }

    private void anyCall() {
        switch (random.nextInt(12)) {
            case 0, 1:
                v.create(file(), name(), random.nextBoolean());
                break;
            case 2:
                v.open(file(), name());
                break;
            case 3:
                int value = v.read(file(), random.nextInt(30) - 1);
                c.is(true, value >= 0 && value <= 255, "read answers 0 .. 255");
                break;
            case 4, 5, 6:
                int file = file();
                v.write(file, random.nextBoolean() ? v.length(file) : random.nextInt(20) - 1, random.nextInt());
                break;
            case 7:
                v.shorten(file(), random.nextInt(30) - 1);
                break;
            case 8:
                c.is(true, v.remove(file(), name()) > 0, "remove frees a sector at least");
                break;
            case 9:
                v.length(file());
                break;
            case 10:
                v.entry(file(), random.nextInt(8) - 1, random.nextInt(5) - 1);
                break;
            default:
                if (random.nextInt(4) == 0) {
                    v.charge(random.nextInt(12) - 1);
                }
                break;
        }
    }

    private void countsAgree() {
        int free = 0;
        int unreadable = 0;
        for (int sector = 0; sector < 40; sector++) {
            free += v.label(sector, 0) == 0 ? 1 : 0;
            unreadable += v.label(sector, 0) == -1 ? 1 : 0;
        }
        c.is(free, v.state(2), "free sectors");
        c.is(unreadable, v.state(3), "unreadable sectors");
    }

    private void scavenge() {
        int misses = v.state(0);
        int files = v.scavenge();
        c.is(1, v.state(4), "power behind a scavenging");
        c.misses(v, misses, "by scavenging");
        c.is(files, leaders(), "files that have a leader");
        for (int sector = 0; sector < 40; sector++) {
            sectorIsRight(sector);
        }
        c.misses(v, misses, "as all hints are right");
        v.scavenge();
        c.is(0, v.report(4), "sectors written by scavenging again");
        c.is(0, v.report(1) + v.report(2) + v.report(3), "sectors lost, leaders made, files adopted again");
    }

    private int leaders() {
        int count = 0;
        for (int sector = 0; sector < 40; sector++) {
            count += v.label(sector, 0) > 0 && v.label(sector, 1) == 0 ? 1 : 0;
        }
        return count;
    }

    /** Links fit one another, lengths are found, and the map's bits are right. */
    private void sectorIsRight(int sector) {
        int serial = v.label(sector, 0);
        if (serial <= 0) {
            return;
        }
        int page = v.label(sector, 1);
        int next = v.label(sector, 3);
        if (next != -1) {
            c.label(v, next, serial, page + 1);
            c.is(sector, v.label(next, 4), "BEFORE of the next page");
            c.is(8, v.label(sector, 2), "USED of a page that is not the last");
        }
        c.is(page == 0, v.label(sector, 4) == -1, "the leader alone has no page ahead");
        if (serial <= 2 && page == 0) {
            c.data(v, sector, 0, 0, serial == 1 ? 1 : 0);
        }
        if (next == -1) {
            int length = page == 0 ? 0 : 8 * (page - 1) + v.label(sector, 2);
            c.is(length, v.length(serial), "length of file " + serial);
        }
        if (serial == 2 && page == 1) {
            for (int n = 0; n < 40; n++) {
                c.is(v.label(n, 0) == 0 ? 1 : 0, v.data(sector, n / 8) >> n % 8 & 1, "the map's bit " + n);
            }
        }
    }
}
