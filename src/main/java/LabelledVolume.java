import java.util.NoSuchElementException;

/**
 * A volume of sectors that each say in a label which page of which file they are. Every place that is
 * kept anywhere is only a hint: it is checked against the label, and searched for where it is wrong.
 */
public final class LabelledVolume {
    private static final int SECTORS = 40;
    private static final int BYTES = 8;
    private static final int NONE = -1;

    private static final int ROOT = 1;
    private static final int MAP = 2;
    private static final int FIRST_SERIAL = 3;
    private static final int LAST_SERIAL = 60;

    private static final int LAST_NAME = 9999;
    private static final int NAME_OF_FOUND = 10000;
    private static final int PLAIN = 0;
    private static final int DIRECTORY = 1;

    private static final int ENTRY_BYTES = 4;
    private static final int ENTRY_SERIAL = 2;
    private static final int ENTRY_SECTOR = 3;
    /** Two in a page, and no file has more pages than there are sectors. */
    private static final int MOST_ENTRIES = 2 * SECTORS;

    private static final int LEADER_KIND = 2;
    private static final int LEADER_LAST = 3;
    private static final int MAP_BYTES = 5;

    /** The cells of a sector: its label in the order that label() numbers it, then its data. */
    private static final int SERIAL = 0;
    private static final int PAGE = 1;
    private static final int USED = 2;
    private static final int NEXT = 3;
    private static final int BEFORE = 4;
    private static final int DATA = 5;
    private static final int CELLS = DATA + BYTES;

    private static final int MOST_CHARGE = 99;
    private static final int NO_CHARGE = -1;

    private final Disk disk;
    private final Finder finder;
    private final EntryWalk walk;
    private final FreeMap freeMap;
    private final Scavenger scavenger;
    /** The pages that a call goes through from the last one on, found before the first of them is written. */
    private final int[] gathered;

    public LabelledVolume() {
        Disk newDisk = new Disk();
        Finder newFinder = new Finder(newDisk);
        newDisk.format();
        disk = newDisk;
        finder = newFinder;
        walk = new EntryWalk(newDisk, newFinder);
        freeMap = new FreeMap(newDisk, newFinder);
        scavenger = new Scavenger(newDisk);
        gathered = new int[SECTORS];
    }

    public int create(int dir, int name, boolean directory) throws UnsupportedOperationException,
            NoSuchElementException, IllegalArgumentException, IllegalStateException {
        requirePower();
        int leader = requireDirectory(dir);
        if (name < 1 || name > LAST_NAME) {
            throw new IllegalArgumentException();
        }
        if (walk.seekName(leader, name)) {
            throw new IllegalStateException();
        }
        if (!freeMap.take(walk.needsPage() ? 2 : 1)) {
            throw new IllegalStateException();
        }
        int serial = disk.lowestUnsaidSerial();
        int sector = freeMap.firstTaken();
        disk.spendWrite();
        disk.makeLeader(sector, serial, name, directory ? DIRECTORY : PLAIN);
        enterEntry(leader, sector);
        freeMap.update();
        finder.remember(serial, sector);
        return serial;
    }

    public int open(int dir, int name) throws UnsupportedOperationException, NoSuchElementException,
            IllegalArgumentException, IllegalStateException {
        requirePower();
        return disk.cell(leaderOfEntry(dir, name), SERIAL);
    }

    public int read(int file, int i) throws UnsupportedOperationException, NoSuchElementException,
            IllegalStateException, IndexOutOfBoundsException {
        requirePower();
        int leader = requireLeader(file);
        int last = unbroken(finder.lastOf(leader));
        if (i < 0 || i >= disk.lengthUpTo(last)) {
            throw new IndexOutOfBoundsException();
        }
        return disk.byteAt(unbroken(finder.pageOf(leader, last, i / BYTES + 1)), i % BYTES);
    }

    public void write(int file, int i, int v) throws UnsupportedOperationException, NoSuchElementException,
            IllegalArgumentException, IllegalStateException, IndexOutOfBoundsException {
        requirePower();
        int leader = requirePlainFile(file);
        int last = unbroken(finder.lastOf(leader));
        int length = disk.lengthUpTo(last);
        if (i < 0 || i > length) {
            throw new IndexOutOfBoundsException();
        }
        if (i == length) {
            appendByte(leader, last, v);
            return;
        }
        int sector = unbroken(finder.pageOf(leader, last, i / BYTES + 1));
        disk.spendWrite();
        disk.setByte(sector, i % BYTES, v);
    }

    public void shorten(int file, int n) throws UnsupportedOperationException, NoSuchElementException,
            IllegalArgumentException, IllegalStateException, IndexOutOfBoundsException {
        requirePower();
        int leader = requirePlainFile(file);
        int last = unbroken(finder.lastOf(leader));
        int length = disk.lengthUpTo(last);
        if (n < 0 || n > length) {
            throw new IndexOutOfBoundsException();
        }
        if (n == length) {
            return;
        }
        int pages = (n + BYTES - 1) / BYTES;
        if (disk.cell(last, PAGE) > pages) {
            dropPages(leader, last, n, pages);
            return;
        }
        disk.spendWrite();
        disk.endFileAt(last, n);
    }

    public int remove(int dir, int name) throws UnsupportedOperationException, NoSuchElementException,
            IllegalArgumentException, IllegalStateException {
        requirePower();
        int leader = leaderOfEntry(dir, name);
        int entryPage = walk.sectorHere();
        int entryOffset = walk.offsetHere();
        if (disk.isDirectory(leader) && walk.seekUsed(leader)) {
            throw new IllegalStateException();
        }
        int count = gatherPages(unbroken(finder.lastOf(leader)), 1);
        freeMap.find();
        disk.spendWrite();
        disk.makeHole(entryPage, entryOffset);
        int serial = disk.cell(leader, SERIAL);
        freeGathered(count);
        freeMap.release(leader);
        freeMap.update();
        finder.forget(serial);
        return count + 1;
    }

    public int length(int file) throws UnsupportedOperationException, NoSuchElementException,
            IllegalStateException {
        requirePower();
        int leader = requireLeader(file);
        return disk.lengthUpTo(unbroken(finder.lastOf(leader)));
    }

    public int entry(int dir, int k, int what) throws UnsupportedOperationException, NoSuchElementException,
            IllegalArgumentException, IllegalStateException {
        requirePower();
        int leader = requireDirectory(dir);
        if (what < 0 || what > 2) {
            throw new IllegalArgumentException();
        }
        if (k < 0 || !walk.seekIndex(leader, k)) {
            throw new NoSuchElementException();
        }
        int offset = walk.offsetHere();
        if (what == 0) {
            return disk.nameAt(walk.sectorHere(), offset);
        }
        return disk.byteAt(walk.sectorHere(), offset + (what == 1 ? ENTRY_SERIAL : ENTRY_SECTOR));
    }

    public int scavenge() {
        disk.restorePower();
        finder.forgetAll();
        scavenger.run();
        return scavenger.result(0);
    }

    public void charge(int n) throws IllegalArgumentException, UnsupportedOperationException {
        if (n < 0 || n > MOST_CHARGE) {
            throw new IllegalArgumentException();
        }
        requirePower();
        disk.limitWrites(n);
    }

    public boolean spoil(int sector, int i, int v) {
        if (i < 0 || i >= BYTES || !disk.isInUse(sector)) {
            return false;
        }
        disk.setByte(sector, i, v);
        return true;
    }

    public boolean scratch(int sector) {
        if (!disk.isReadable(sector)) {
            return false;
        }
        disk.makeUnreadable(sector);
        return true;
    }

    public boolean ghost(int from, int to) {
        if (!disk.isInUse(from) || !disk.isFree(to)) {
            return false;
        }
        disk.copySector(from, to);
        return true;
    }

    public int label(int sector, int what) {
        return what < 0 || what >= DATA ? NONE : disk.cell(sector, what);
    }

    public int data(int sector, int i) {
        return i < 0 || i >= BYTES ? NONE : disk.byteAt(sector, i);
    }

    public int state(int what) {
        switch (what) {
            case 0:
                return disk.missesCounted();
            case 1:
                return disk.writesCounted();
            case 2:
                return disk.countFree();
            case 3:
                return disk.countUnreadable();
            case 4:
                return disk.hasPower() ? 1 : 0;
            default:
                return -1;
        }
    }

    public int report(int what) {
        return scavenger.result(what);
    }

    private void requirePower() {
        if (!disk.hasPower()) {
            throw new UnsupportedOperationException();
        }
    }

    private int requireLeader(int file) {
        int leader = finder.leaderOf(file);
        if (leader == NONE) {
            throw new NoSuchElementException();
        }
        return leader;
    }

    private int requireDirectory(int file) {
        int leader = requireLeader(file);
        if (!disk.isDirectory(leader)) {
            throw new IllegalArgumentException();
        }
        return leader;
    }

    private int requirePlainFile(int file) {
        int leader = requireLeader(file);
        if (file == MAP || disk.isDirectory(leader)) {
            throw new IllegalArgumentException();
        }
        return leader;
    }

    /** Passes a found sector on; a page that is nowhere means that the file is broken. */
    private static int unbroken(int sector) {
        if (sector == NONE) {
            throw new IllegalStateException();
        }
        return sector;
    }

    /** The leader of the file that a directory names; the walk stays on its entry. */
    private int leaderOfEntry(int dir, int name) {
        int dirLeader = requireDirectory(dir);
        if (!walk.seekName(dirLeader, name)) {
            throw new NoSuchElementException();
        }
        int serial = walk.serialHere();
        if (serial < FIRST_SERIAL || serial > LAST_SERIAL) {
            throw new NoSuchElementException();
        }
        int hint = disk.byteAt(walk.sectorHere(), walk.offsetHere() + ENTRY_SECTOR);
        if (disk.looksLike(hint, serial, 0)) {
            finder.remember(serial, hint);
            return hint;
        }
        return requireLeader(serial);
    }

    private void appendByte(int leader, int last, int v) {
        int used = disk.cell(last, USED);
        if (disk.cell(last, PAGE) > 0 && used < BYTES) {
            disk.spendWrite();
            disk.setByte(last, used, v);
            disk.setCell(last, USED, used + 1);
            return;
        }
        if (!freeMap.take(1)) {
            throw new IllegalStateException();
        }
        int sector = freeMap.firstTaken();
        disk.spendWrite();
        disk.makePageBehind(last, sector, 1);
        disk.setByte(sector, 0, v);
        linkBehind(leader, last, sector);
        freeMap.update();
    }

    /** Puts a new file's entry where the walk that went to the end of its directory found room. */
    private void enterEntry(int dirLeader, int fileLeader) {
        int end = walk.sectorHere();
        disk.spendWrite();
        if (walk.foundHole()) {
            disk.putEntry(walk.holeSector(), walk.holeOffset(), fileLeader);
        } else if (!walk.needsPage()) {
            disk.putEntry(end, ENTRY_BYTES, fileLeader);
            disk.setCell(end, USED, BYTES);
        } else {
            int sector = freeMap.secondTaken();
            disk.makePageBehind(end, sector, ENTRY_BYTES);
            disk.putEntry(sector, 0, fileLeader);
            linkBehind(dirLeader, end, sector);
        }
    }

    private void linkBehind(int leader, int last, int sector) {
        disk.spendWrite();
        disk.setCell(last, NEXT, sector);
        writeHint(leader, last, sector);
    }

    private void dropPages(int leader, int last, int n, int pages) {
        int count = gatherPages(last, pages) - 1;
        int newLast = gatheredPage(count);
        freeMap.find();
        freeGathered(count);
        disk.spendWrite();
        disk.endFileAt(newLast, n);
        writeHint(leader, newLast, newLast);
        freeMap.update();
    }

    /**
     * The leader gets its hint in the writing of the sector just written, if it is that one. Sectors are
     * compared, as a label that says page 0 may be that of a ghost.
     */
    private void writeHint(int leader, int justWritten, int last) {
        if (justWritten != leader) {
            disk.spendWrite();
        }
        disk.setByte(leader, LEADER_LAST, last);
    }

    /** Gathers the pages from the last one on down to a lowest one: how many these are. */
    private int gatherPages(int last, int lowest) {
        int count = 0;
        int sector = last;
        for (int page = disk.cell(last, PAGE); page >= lowest && count < SECTORS; page--) {
            gathered[count] = sector;
            count++;
            if (page > lowest) {
                sector = unbroken(finder.follow(sector, BEFORE));
            }
        }
        return count;
    }

    private int gatheredPage(int k) {
        return k >= 0 && k < SECTORS ? gathered[k] : NONE;
    }

    private void freeGathered(int count) {
        for (int k = 0; k < count; k++) {
            freeMap.release(gatheredPage(k));
        }
    }

    /** The sectors with their labels and data, the power, and what is counted of looking and writing. */
    private static final class Disk {
        private final int[] cells = new int[SECTORS * CELLS];
        private final int[] earlier = new int[SECTORS * CELLS];
        private final boolean[] unreadable = new boolean[SECTORS];
        private int misses = 0;
        private int written = 0;
        private int charge = NO_CHARGE;
        private boolean power = true;

        void format() {
            for (int sector = 0; sector < SECTORS; sector++) {
                erase(sector);
            }
            makeLeader(0, ROOT, 0, DIRECTORY);
            makeLeader(1, MAP, 0, PLAIN);
            makePageBehind(1, 2, MAP_BYTES);
            setCell(1, NEXT, 2);
            setByte(1, LEADER_LAST, 2);
            setMapBits(2);
        }

        boolean isReadable(int sector) {
            return sector >= 0 && sector < SECTORS && !unreadable[sector];
        }

        /** A cell of a sector, NONE if the sector says nothing. */
        int cell(int sector, int which) {
            boolean known = sector >= 0 && sector < SECTORS && which >= 0 && which < CELLS;
            return known && !unreadable[sector] ? cells[sector * CELLS + which] : NONE;
        }

        void setCell(int sector, int which, int value) {
            boolean known = sector >= 0 && sector < SECTORS && which >= 0 && which < CELLS;
            if (known && !unreadable[sector]) {
                cells[sector * CELLS + which] = value;
            }
        }

        boolean isFree(int sector) {
            return cell(sector, SERIAL) == 0;
        }

        boolean isInUse(int sector) {
            return cell(sector, SERIAL) > 0;
        }

        int byteAt(int sector, int i) {
            return cell(sector, DATA + i);
        }

        void setByte(int sector, int i, int value) {
            setCell(sector, DATA + i, value & 255);
        }

        int nameAt(int sector, int offset) {
            return cell(sector, DATA + offset) * 256 + cell(sector, DATA + offset + 1);
        }

        void setName(int sector, int offset, int name) {
            setCell(sector, DATA + offset, name >> 8 & 255);
            setCell(sector, DATA + offset + 1, name & 255);
        }

        /** Looking at a sector for a page: what it is not, counts as a miss. */
        boolean looksLike(int sector, int serial, int page) {
            boolean right = cell(sector, SERIAL) == serial && cell(sector, PAGE) == page;
            misses += right ? 0 : 1;
            return right;
        }

        /** The lowest sector whose label says a page of a file, NONE if there is none. */
        int search(int serial, int page) {
            for (int sector = 0; sector < SECTORS; sector++) {
                if (cell(sector, SERIAL) == serial && cell(sector, PAGE) == page) {
                    return sector;
                }
            }
            return NONE;
        }

        int lowestFree() {
            for (int sector = 0; sector < SECTORS; sector++) {
                if (isFree(sector)) {
                    return sector;
                }
            }
            return NONE;
        }

        /** There are more serials than sectors, so that one is always left. */
        int lowestUnsaidSerial() {
            long said = 0;
            for (int sector = 0; sector < SECTORS; sector++) {
                if (isInUse(sector)) {
                    said |= 1L << cell(sector, SERIAL);
                }
            }
            int serial = FIRST_SERIAL;
            while (serial < LAST_SERIAL && (said >> serial & 1) == 1) {
                serial++;
            }
            return serial;
        }

        boolean isDirectory(int leader) {
            int serial = cell(leader, SERIAL);
            return serial == ROOT || serial >= FIRST_SERIAL && byteAt(leader, LEADER_KIND) == DIRECTORY;
        }

        int lengthUpTo(int last) {
            int page = cell(last, PAGE);
            return page == 0 ? 0 : BYTES * (page - 1) + cell(last, USED);
        }

        int entriesIn(int sector) {
            return cell(sector, PAGE) == 0 ? 0 : cell(sector, USED) / ENTRY_BYTES;
        }

        boolean takesEntryBehind(int end) {
            return cell(end, PAGE) > 0 && cell(end, USED) <= ENTRY_BYTES;
        }

        void erase(int sector) {
            for (int which = 0; which < CELLS; which++) {
                setCell(sector, which, 0);
            }
            setCell(sector, NEXT, NONE);
            setCell(sector, BEFORE, NONE);
        }

        void makeLeader(int sector, int serial, int name, int kind) {
            erase(sector);
            setCell(sector, SERIAL, serial);
            setCell(sector, USED, BYTES);
            setName(sector, 0, name);
            setByte(sector, LEADER_KIND, kind);
            setByte(sector, LEADER_LAST, sector);
        }

        void makePageBehind(int last, int sector, int used) {
            erase(sector);
            setCell(sector, SERIAL, cell(last, SERIAL));
            setCell(sector, PAGE, cell(last, PAGE) + 1);
            setCell(sector, USED, used);
            setCell(sector, BEFORE, last);
        }

        /** A page becomes the last one of a file that has n bytes then; page 0 has none of them. */
        void endFileAt(int sector, int n) {
            setCell(sector, NEXT, NONE);
            int page = cell(sector, PAGE);
            if (page == 0) {
                return;
            }
            int used = n - BYTES * (page - 1);
            setCell(sector, USED, used);
            for (int i = used; i < BYTES; i++) {
                setByte(sector, i, 0);
            }
        }

        /** An entry has all that it says from the leader of its file. */
        void putEntry(int sector, int offset, int leader) {
            setName(sector, offset, nameAt(leader, 0));
            setByte(sector, offset + ENTRY_SERIAL, cell(leader, SERIAL));
            setByte(sector, offset + ENTRY_SECTOR, leader);
        }

        void makeHole(int sector, int offset) {
            for (int i = 0; i < ENTRY_BYTES; i++) {
                setByte(sector, offset + i, 0);
            }
        }

        void setMapBits(int mapPage) {
            for (int k = 0; k < MAP_BYTES; k++) {
                int bits = 0;
                for (int b = 0; b < 8; b++) {
                    bits |= isFree(8 * k + b) ? 1 << b : 0;
                }
                setByte(mapPage, k, bits);
            }
        }

        void makeUnreadable(int sector) {
            if (isReadable(sector)) {
                unreadable[sector] = true;
            }
        }

        void copySector(int from, int to) {
            for (int which = 0; which < CELLS; which++) {
                setCell(to, which, cell(from, which));
            }
        }

        void countMiss() {
            misses++;
        }

        int missesCounted() {
            return misses;
        }

        int writesCounted() {
            return written;
        }

        int countFree() {
            int count = 0;
            for (int sector = 0; sector < SECTORS; sector++) {
                count += isFree(sector) ? 1 : 0;
            }
            return count;
        }

        int countUnreadable() {
            int count = 0;
            for (int sector = 0; sector < SECTORS; sector++) {
                count += unreadable[sector] ? 1 : 0;
            }
            return count;
        }

        boolean hasPower() {
            return power;
        }

        void limitWrites(int n) {
            charge = n;
        }

        void restorePower() {
            power = true;
            charge = NO_CHARGE;
        }

        /** Stands before each writing of one sector, so that the power goes before anything is changed. */
        void spendWrite() {
            if (charge == 0) {
                power = false;
                throw new UnsupportedOperationException();
            }
            if (charge > 0) {
                charge--;
            }
            written++;
        }

        void keepEarlier() {
            System.arraycopy(cells, 0, earlier, 0, SECTORS * CELLS);
        }

        /** Counts each sector that differs from what was kept as written once. */
        int countChanged() {
            int count = 0;
            for (int sector = 0; sector < SECTORS; sector++) {
                count += hasChanged(sector) ? 1 : 0;
            }
            written += count;
            return count;
        }

        private boolean hasChanged(int sector) {
            for (int which = 0; which < CELLS; which++) {
                if (cells[sector * CELLS + which] != earlier[sector * CELLS + which]) {
                    return true;
                }
            }
            return false;
        }
    }

    /** Finds leaders and pages by the hints for them, and by searching where a hint is wrong. */
    private static final class Finder {
        private final Disk disk;
        private final int[] remembered = new int[LAST_SERIAL + 1];

        Finder(Disk disk) {
            this.disk = disk;
            for (int serial = 0; serial <= LAST_SERIAL; serial++) {
                remembered[serial] = NONE;
            }
        }

        void remember(int serial, int sector) {
            if (serial >= ROOT && serial <= LAST_SERIAL) {
                remembered[serial] = sector;
            }
        }

        void forget(int serial) {
            remember(serial, NONE);
        }

        void forgetAll() {
            for (int serial = ROOT; serial <= LAST_SERIAL; serial++) {
                forget(serial);
            }
        }

        /** The leader of a file, NONE if there is no such file. */
        int leaderOf(int serial) {
            if (serial < ROOT || serial > LAST_SERIAL) {
                return NONE;
            }
            int hint = remembered[serial];
            if (hint != NONE && disk.looksLike(hint, serial, 0)) {
                return hint;
            }
            remembered[serial] = disk.search(serial, 0);
            return remembered[serial];
        }

        /** The page behind a page (by NEXT) or ahead of it (by BEFORE), NONE if the file is broken. */
        int follow(int sector, int link) {
            int serial = disk.cell(sector, SERIAL);
            int page = disk.cell(sector, PAGE) + (link == NEXT ? 1 : -1);
            int hint = disk.cell(sector, link);
            return hint != NONE && disk.looksLike(hint, serial, page) ? hint : disk.search(serial, page);
        }

        /** The last page of a file, NONE if it is broken. */
        int lastOf(int leader) {
            int hint = disk.byteAt(leader, LEADER_LAST);
            if (disk.cell(hint, SERIAL) == disk.cell(leader, SERIAL) && disk.cell(hint, NEXT) == NONE) {
                return hint;
            }
            disk.countMiss();
            int sector = leader;
            for (int n = 0; n < SECTORS && sector != NONE && disk.cell(sector, NEXT) != NONE; n++) {
                sector = follow(sector, NEXT);
            }
            return sector;
        }

        /** Page p of a file whose last page is known, NONE if it is broken. */
        int pageOf(int leader, int last, int p) {
            if (disk.cell(last, PAGE) == p) {
                return last;
            }
            int sector = leader;
            for (int n = 0; n < p && n < SECTORS && sector != NONE; n++) {
                sector = follow(sector, NEXT);
            }
            return sector;
        }
    }

    /** Goes through the entries of a directory, to no page that it is not asked for. */
    private static final class EntryWalk {
        private final Disk disk;
        private final Finder finder;
        private int sector = NONE;
        private int slot = NONE;
        private int holeSector = NONE;
        private int holeSlot = NONE;

        EntryWalk(Disk disk, Finder finder) {
            this.disk = disk;
            this.finder = finder;
        }

        private void start(int leader) {
            sector = leader;
            slot = NONE;
            holeSector = NONE;
            holeSlot = NONE;
        }

        /** Goes to the next entry; false at the end, whose page is then the one here. */
        private boolean step() {
            slot++;
            for (int n = 0; n < SECTORS && slot >= disk.entriesIn(sector); n++) {
                if (disk.cell(sector, NEXT) == NONE) {
                    return false;
                }
                sector = unbroken(finder.follow(sector, NEXT));
                slot = 0;
            }
            return true;
        }

        /** Goes to the first entry with a name, and keeps the first hole on the way. */
        boolean seekName(int leader, int name) {
            start(leader);
            for (int n = 0; n < MOST_ENTRIES && step(); n++) {
                if (serialHere() == 0) {
                    keepFirstHole();
                } else if (disk.nameAt(sector, offsetHere()) == name) {
                    return true;
                }
            }
            return false;
        }

        /** Goes to the first entry that is no hole. */
        boolean seekUsed(int leader) {
            start(leader);
            for (int n = 0; n < MOST_ENTRIES && step(); n++) {
                if (serialHere() != 0) {
                    return true;
                }
            }
            return false;
        }

        boolean seekIndex(int leader, int k) {
            start(leader);
            for (int n = 0; n < MOST_ENTRIES && step(); n++) {
                if (n == k) {
                    return true;
                }
            }
            return false;
        }

        private void keepFirstHole() {
            if (holeSector == NONE) {
                holeSector = sector;
                holeSlot = slot;
            }
        }

        int sectorHere() {
            return sector;
        }

        int offsetHere() {
            return slot * ENTRY_BYTES;
        }

        int serialHere() {
            return disk.byteAt(sector, offsetHere() + ENTRY_SERIAL);
        }

        boolean foundHole() {
            return holeSector != NONE;
        }

        int holeSector() {
            return holeSector;
        }

        int holeOffset() {
            return holeSlot * ENTRY_BYTES;
        }

        /** Whether one more entry would need a new page, when the walk has come to the end. */
        boolean needsPage() {
            return !foundHole() && !disk.takesEntryBehind(sector);
        }
    }

    /** The map's page as one call uses it: what the call takes, misses and frees is put into it at its end. */
    private static final class FreeMap {
        private final Disk disk;
        private final Finder finder;
        private int page = NONE;
        private int first = NONE;
        private int second = NONE;
        /** Sector n is bit n of these. */
        private long takenOrMissed = 0;
        private long freed = 0;

        FreeMap(Disk disk, Finder finder) {
            this.disk = disk;
            this.finder = finder;
        }

        /** Finds the map's page; without one there are no bits, and nothing is written at the end. */
        void find() {
            int leader = finder.leaderOf(MAP);
            page = leader == NONE ? NONE : finder.follow(leader, NEXT);
            first = NONE;
            second = NONE;
            takenOrMissed = 0;
            freed = 0;
        }

        /** Takes one sector or two; false if the volume is full. */
        boolean take(int wanted) {
            find();
            for (int sector = 0; sector < SECTORS && countTaken() < wanted; sector++) {
                if (hintsFree(sector)) {
                    takeOrMiss(sector);
                }
            }
            for (int sector = 0; sector < SECTORS && countTaken() < wanted; sector++) {
                if (disk.isFree(sector) && sector != first) {
                    takeOrMiss(sector);
                }
            }
            return countTaken() == wanted;
        }

        private boolean hintsFree(int sector) {
            return page != NONE && (disk.byteAt(page, sector / 8) >> sector % 8 & 1) == 1;
        }

        private void takeOrMiss(int sector) {
            takenOrMissed |= 1L << sector;
            if (!disk.isFree(sector)) {
                disk.countMiss();
            } else if (first == NONE) {
                first = sector;
            } else {
                second = sector;
            }
        }

        private int countTaken() {
            return first == NONE ? 0 : second == NONE ? 1 : 2;
        }

        int firstTaken() {
            return first;
        }

        int secondTaken() {
            return second;
        }

        void release(int sector) {
            disk.spendWrite();
            disk.erase(sector);
            freed |= 1L << sector;
        }

        /** Writes the map's page, if what the call did changes it. */
        void update() {
            if (page == NONE || !wouldChange()) {
                return;
            }
            disk.spendWrite();
            for (int k = 0; k < MAP_BYTES; k++) {
                disk.setByte(page, k, updatedByte(k));
            }
        }

        private boolean wouldChange() {
            for (int k = 0; k < MAP_BYTES; k++) {
                if (updatedByte(k) != disk.byteAt(page, k)) {
                    return true;
                }
            }
            return false;
        }

        private int updatedByte(int k) {
            long set = freed >> 8 * k & 255;
            long clear = takenOrMissed >> 8 * k & 255;
            return (int) ((disk.byteAt(page, k) | set) & ~clear);
        }
    }

    /**
     * Makes links, directories and the map anew from the labels. Behind the first step no two sectors say
     * the same page of the same file, so that searching for a page finds the kept one.
     */
    private static final class Scavenger {
        private static final int RESULTS = 5;
        /** A directory on the way down needs two sectors at least. */
        private static final int DEEPEST = SECTORS / 2;

        private final Disk disk;
        private final int[] results = new int[RESULTS];
        private int lost = 0;
        private int made = 0;
        private int adopted = 0;
        /** File s is bit s. */
        private long reached = 0;

        Scavenger(Disk disk) {
            this.disk = disk;
        }

        int result(int what) {
            return what >= 0 && what < RESULTS ? results[what] : -1;
        }

        void run() {
            lost = 0;
            made = 0;
            adopted = 0;
            reached = 0;
            disk.keepEarlier();
            loseUnkept();
            makeLeaders();
            if (isThere(ROOT)) {
                walkDirectory(ROOT, 0);
            }
            int orphan = isThere(ROOT) ? nextToAdopt() : NONE;
            for (int n = 0; n < LAST_SERIAL && orphan != NONE; n++) {
                orphan = adopt(orphan) ? nextToAdopt() : NONE;
            }
            putRight();
            results[0] = countFiles();
            results[1] = lost;
            results[2] = made;
            results[3] = adopted;
            results[4] = disk.countChanged();
        }

        private boolean isThere(int serial) {
            return serial >= ROOT && serial <= LAST_SERIAL && disk.search(serial, 0) != NONE;
        }

        private boolean isReached(int serial) {
            return (reached >> serial & 1) == 1;
        }

        private int countFiles() {
            int count = 0;
            for (int serial = ROOT; serial <= LAST_SERIAL; serial++) {
                count += isThere(serial) ? 1 : 0;
            }
            return count;
        }

        private void loseUnkept() {
            long kept = 0;
            for (int serial = ROOT; serial <= LAST_SERIAL; serial++) {
                kept |= keptOf(serial);
            }
            for (int sector = 0; sector < SECTORS; sector++) {
                if (disk.isInUse(sector) && (kept >> sector & 1) == 0) {
                    lose(sector);
                }
            }
        }

        /** The sectors of a file that are kept, sector n as bit n. */
        private long keptOf(int serial) {
            long kept = 0;
            int highest = serial == MAP ? 1 : SECTORS;
            for (int page = isThere(serial) ? 0 : 1; page <= highest; page++) {
                int sector = disk.search(serial, page);
                if (sector == NONE) {
                    return kept;
                }
                kept |= 1L << sector;
                if (page > 0 && disk.cell(sector, USED) < BYTES) {
                    return kept;
                }
            }
            return kept;
        }

        private void lose(int sector) {
            disk.erase(sector);
            lost++;
        }

        private void losePages(int serial) {
            for (int sector = 0; sector < SECTORS; sector++) {
                if (disk.cell(sector, SERIAL) == serial) {
                    lose(sector);
                }
            }
        }

        private void makeLeaders() {
            for (int serial = FIRST_SERIAL; serial <= LAST_SERIAL; serial++) {
                boolean headless = !isThere(serial) && disk.search(serial, 1) != NONE;
                if (headless && !makeLeader(serial, NAME_OF_FOUND + serial, PLAIN)) {
                    losePages(serial);
                }
            }
            provideLeader(ROOT, DIRECTORY);
            provideLeader(MAP, PLAIN);
            makeMapPage();
        }

        private boolean makeLeader(int serial, int name, int kind) {
            int sector = disk.lowestFree();
            if (sector == NONE) {
                return false;
            }
            disk.makeLeader(sector, serial, name, kind);
            made++;
            return true;
        }

        /** One that was there may have been spoilt, so that it gets the name 0 and its KIND like one that is made. */
        private void provideLeader(int serial, int kind) {
            if (!isThere(serial) && !makeLeader(serial, 0, kind)) {
                losePages(serial);
                makeLeader(serial, 0, kind);
            }
            int leader = disk.search(serial, 0);
            disk.setName(leader, 0, 0);
            disk.setByte(leader, LEADER_KIND, kind);
        }

        private void makeMapPage() {
            int leader = disk.search(MAP, 0);
            int sector = disk.lowestFree();
            if (leader != NONE && sector != NONE && disk.search(MAP, 1) == NONE) {
                disk.makePageBehind(leader, sector, MAP_BYTES);
            }
        }

        /** Where entry k of a directory is, as sector * BYTES + offset; NONE if it has no such entry. */
        private int entryPlace(int dir, int k) {
            int sector = disk.search(dir, k / 2 + 1);
            return sector != NONE && k % 2 < disk.entriesIn(sector) ? sector * BYTES + k % 2 * ENTRY_BYTES : NONE;
        }

        private int serialAt(int place) {
            return disk.byteAt(place / BYTES, place % BYTES + ENTRY_SERIAL);
        }

        private int nameAt(int place) {
            return disk.nameAt(place / BYTES, place % BYTES);
        }

        private void walkDirectory(int dir, int depth) {
            if (depth > DEEPEST) {
                return;
            }
            for (int k = 0; k < MOST_ENTRIES; k++) {
                int place = entryPlace(dir, k);
                if (place == NONE) {
                    return;
                }
                settleEntry(place, depth);
            }
        }

        /** An entry that counts is put right, and what it leads to is walked at once if it is a directory. */
        private void settleEntry(int place, int depth) {
            int serial = serialAt(place);
            int leader = serial < FIRST_SERIAL || serial > LAST_SERIAL ? NONE : disk.search(serial, 0);
            if (leader == NONE || isReached(serial) || disk.nameAt(leader, 0) != nameAt(place)) {
                disk.makeHole(place / BYTES, place % BYTES);
                return;
            }
            disk.setByte(place / BYTES, place % BYTES + ENTRY_SECTOR, leader);
            reached |= 1L << serial;
            if (disk.isDirectory(leader)) {
                walkDirectory(serial, depth + 1);
            }
        }

        /** The lowest file not reached that no other such directory lists, else the lowest of all. */
        private int nextToAdopt() {
            int lowest = NONE;
            for (int serial = FIRST_SERIAL; serial <= LAST_SERIAL; serial++) {
                if (isReached(serial) || !isThere(serial)) {
                    continue;
                }
                if (!isListed(serial)) {
                    return serial;
                }
                lowest = lowest == NONE ? serial : lowest;
            }
            return lowest;
        }

        private boolean isListed(int serial) {
            int name = disk.nameAt(disk.search(serial, 0), 0);
            for (int other = FIRST_SERIAL; other <= LAST_SERIAL; other++) {
                boolean asked = other != serial && !isReached(other) && disk.isDirectory(disk.search(other, 0));
                if (asked && hasEntry(other, serial, name)) {
                    return true;
                }
            }
            return false;
        }

        private boolean hasEntry(int dir, int serial, int name) {
            for (int k = 0; k < MOST_ENTRIES; k++) {
                int place = entryPlace(dir, k);
                if (place == NONE) {
                    return false;
                }
                if (serialAt(place) == serial && nameAt(place) == name) {
                    return true;
                }
            }
            return false;
        }

        /** False if the root needs a page for the entry and no sector is free. */
        private boolean adopt(int serial) {
            int leader = disk.search(serial, 0);
            int name = disk.nameAt(leader, 0);
            boolean keepsName = name >= 1 && name <= LAST_NAME && !rootHasName(name);
            int place = placeInRoot();
            if (place == NONE) {
                return false;
            }
            if (!keepsName) {
                disk.setName(leader, 0, NAME_OF_FOUND + serial);
            }
            disk.putEntry(place / BYTES, place % BYTES, leader);
            adopted++;
            reached |= 1L << serial;
            if (disk.isDirectory(leader)) {
                walkDirectory(serial, 1);
            }
            return true;
        }

        /** All holes of the root are 0 by now, which is no name to be looked for. */
        private boolean rootHasName(int name) {
            for (int k = 0; k < MOST_ENTRIES; k++) {
                int place = entryPlace(ROOT, k);
                if (place == NONE) {
                    return false;
                }
                if (nameAt(place) == name) {
                    return true;
                }
            }
            return false;
        }

        /** The place of the root's next entry, made if there is none; NONE if no sector is free for it. */
        private int placeInRoot() {
            for (int k = 0; k < MOST_ENTRIES && entryPlace(ROOT, k) != NONE; k++) {
                int place = entryPlace(ROOT, k);
                if (serialAt(place) == 0) {
                    return place;
                }
            }
            int end = lastKept(ROOT);
            if (disk.takesEntryBehind(end)) {
                disk.setCell(end, USED, BYTES);
                return end * BYTES + ENTRY_BYTES;
            }
            int sector = disk.lowestFree();
            if (sector == NONE) {
                return NONE;
            }
            disk.makePageBehind(end, sector, ENTRY_BYTES);
            return sector * BYTES;
        }

        private int lastKept(int serial) {
            int last = disk.search(serial, 0);
            for (int page = 1; page < SECTORS; page++) {
                int sector = disk.search(serial, page);
                if (sector == NONE) {
                    return last;
                }
                last = sector;
            }
            return last;
        }

        private void putRight() {
            for (int serial = ROOT; serial <= LAST_SERIAL; serial++) {
                putLinksRight(serial);
            }
            int mapPage = disk.search(MAP, 1);
            if (mapPage != NONE) {
                disk.setCell(mapPage, USED, MAP_BYTES);
                disk.setMapBits(mapPage);
            }
        }

        private void putLinksRight(int serial) {
            int before = NONE;
            for (int page = 0; page < SECTORS; page++) {
                int sector = disk.search(serial, page);
                if (sector == NONE) {
                    break;
                }
                disk.setCell(before, NEXT, sector);
                disk.setCell(sector, BEFORE, before);
                disk.setCell(sector, NEXT, NONE);
                before = sector;
            }
            disk.setByte(disk.search(serial, 0), LEADER_LAST, before);
        }
    }
}
