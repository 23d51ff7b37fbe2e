import java.util.Random;

/**
 * Runs of calls with much damage among them: nothing but what the document names is ever thrown, what throws
 * anything but for want of power changes no sector, and behind a scavenging all hints are right.
 */
public final class RandomRunsTest {
    private static final Check c = new Check();
    private static final int RUNS = 600;
    private static final int CALLS = 100;
    private static final int LOOKS = 6;

    private final Random random;
    private final int damage;
    private final Replay replay = new Replay();

    private RandomRunsTest(int seed) {
        random = new Random(seed);
        damage = seed % 5;
    }

    public static void main(String[] args) {
        for (int seed = 0; seed < RUNS; seed++) {
            new RandomRunsTest(seed).run();
        }
        c.end();
    }

    private void run() {
        for (int n = 0; n < CALLS; n++) {
            addCall();
        }
        for (int n = 0; n < LOOKS; n++) {
            watchCall(random.nextInt(CALLS));
        }
        watchScavenging(random.nextInt(CALLS));
        watchScavenging(CALLS);
    }

    private int file() {
        return random.nextInt(10) == 0 ? random.nextInt(64) - 1 : 1 + random.nextInt(8);
    }

    private int name() {
        return random.nextInt(20) == 0 ? random.nextInt(12000) - 10 : 1 + random.nextInt(6);
    }

    private void addCall() {
        if (random.nextInt(50) == 0) {
            replay.add(v -> v.scavenge());
        } else if (random.nextInt(30) < damage) {
            addDamage();
        } else if (random.nextInt(50) == 0) {
            int n = random.nextInt(12) - 1;
            replay.add(v -> v.charge(n));
        } else {
            addOrdinaryCall();
        }
    }

    private void addDamage() {
        int sector = random.nextInt(42) - 1;
        int to = random.nextInt(42) - 1;
        int spoilt = random.nextInt(12);
        int i = random.nextInt(10) - 1;
        int value = random.nextInt(45);
        switch (random.nextInt(8)) {
            case 0:
                replay.add(v -> v.scratch(sector));
                break;
            case 1, 2, 3:
                replay.add(v -> v.ghost(sector, to));
                break;
            default:
                replay.add(v -> v.spoil(spoilt, i, value));
                break;
        }
    }

    private void addOrdinaryCall() {
        int file = file();
        int name = name();
        int i = random.nextInt(30) - 1;
        int value = random.nextInt();
        int what = random.nextInt(5) - 1;
        boolean directory = random.nextBoolean();
        switch (random.nextInt(12)) {
            case 0, 1:
                replay.add(v -> v.create(file, name, directory));
                break;
            case 2:
                replay.add(v -> v.open(file, name));
                break;
            case 3:
                replay.add(v -> v.read(file, i));
                break;
            case 4, 5, 6, 7:
                replay.add(v -> v.write(file, directory ? v.length(file) : i, value));
                break;
            case 8:
                replay.add(v -> v.shorten(file, i));
                break;
            case 9:
                replay.add(v -> v.remove(file, name));
                break;
            case 10:
                replay.add(v -> v.length(file));
                break;
            default:
                replay.add(v -> v.entry(file, i / 4, what));
                break;
        }
    }

    private void watchCall(int k) {
        LabelledVolume v = replay.upTo(k);
        int written = v.state(1);
        boolean hadPower = v.state(4) == 1;
        String thrown = replay.thrownByCall(k, v);
        boolean hasPower = v.state(4) == 1;
        countsAgree(v);
        if (!hadPower && !thrown.isEmpty()) {
            c.note(thrown.equals("UnsupportedOperationException") || thrown.equals("IllegalArgumentException"),
                    "without power a call threw " + thrown);
        }
        if (!thrown.isEmpty() && hasPower == hadPower) {
            c.written(v, written, "by a call that threw " + thrown);
            boolean same = replay.picture(k).equals(replay.picture(k + 1));
            c.note(same, "a call that threw " + thrown + " changed a sector");
        }
    }

    private static void countsAgree(LabelledVolume v) {
        int free = 0;
        int unreadable = 0;
        for (int sector = 0; sector < 40; sector++) {
            int serial = v.label(sector, 0);
            free += serial == 0 ? 1 : 0;
            unreadable += serial == -1 ? 1 : 0;
        }
        c.is(free, v.state(2), "free sectors");
        c.is(unreadable, v.state(3), "unreadable sectors");
    }

    private void watchScavenging(int count) {
        for (int first = 0; first < 40; first += Replay.SLICE) {
            LabelledVolume v = replay.upTo(count);
            int misses = v.state(0);
            int files = v.scavenge();
            c.is(1, v.state(4), "power behind a scavenging");
            c.is(files, leaders(v), "files that have a leader");
            for (int sector = first; sector < first + Replay.SLICE; sector++) {
                sectorIsRight(v, sector);
            }
            c.misses(v, misses, "by scavenging, and as all hints are right");
            c.is(files, v.scavenge(), "scavenge again");
            for (int what = 1; what < 5; what++) {
                c.is(0, v.report(what), "report(" + what + ") of scavenging again");
            }
        }
    }

    private static int leaders(LabelledVolume v) {
        int count = 0;
        for (int sector = 0; sector < 40; sector++) {
            count += v.label(sector, 0) > 0 && v.label(sector, 1) == 0 ? 1 : 0;
        }
        return count;
    }

    /** Links fit one another, lengths are found, and the map's bits are right. */
    private static void sectorIsRight(LabelledVolume v, int sector) {
        int serial = v.label(sector, 0);
        if (serial <= 0) {
            return;
        }
        int page = v.label(sector, 1);
        int next = v.label(sector, 3);
        if (next != -1) {
            c.label(v, next, serial, page + 1);
            c.is(sector, v.label(next, 4), "BEFORE of the next page");
            c.is(8, v.label(sector, 2), "USED of a page that is not the last");
        } else {
            int length = page == 0 ? 0 : 8 * (page - 1) + v.label(sector, 2);
            c.is(length, v.length(serial), "length of file " + serial);
        }
        c.is(page == 0, v.label(sector, 4) == -1, "the leader alone has no page ahead");
        if (serial <= 2 && page == 0) {
            c.data(v, sector, 0, 0, serial == 1 ? 1 : 0);
        }
        if (serial == 2 && page == 1) {
            mapIsRight(v, sector);
        }
    }

    private static void mapIsRight(LabelledVolume v, int mapPage) {
        for (int sector = 0; sector < 40; sector++) {
            int due = v.label(sector, 0) == 0 ? 1 : 0;
            c.is(due, v.data(mapPage, sector / 8) >> sector % 8 & 1, "the map's bit " + sector);
        }
    }
}
