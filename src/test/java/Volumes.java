/**
 * Volumes that several tests begin with. A test asks no object for more than the 512 calls that the document
 * promises: that is why sectors are made unreadable to fill a volume, and free ones are not looked at wholly.
 */
final class Volumes {
    private Volumes() {
    }

    /** File 3 with name 1 in the root: its leader is in sector 3, the root's page in 4, its pages in 5, 6, .. */
    static LabelledVolume withFile(int bytes) {
        LabelledVolume v = new LabelledVolume();
        v.create(1, 1, false);
        append(v, 3, bytes);
        return v;
    }

    /** Files with the names 1, 2, .. in the root: the leaders are in 3, 5, 6, 8, 9, .., its pages in 4, 7, 10, .. */
    static LabelledVolume withFiles(int count) {
        LabelledVolume v = new LabelledVolume();
        for (int name = 1; name <= count; name++) {
            v.create(1, name, false);
        }
        return v;
    }

    /** Appends bytes that count on from the length: byte i is i + 1. */
    static void append(LabelledVolume v, int file, int bytes) {
        int length = v.length(file);
        for (int i = length; i < length + bytes; i++) {
            v.write(file, i, i + 1);
        }
    }

    /** A volume whose file 3 has all the sectors that the root and the map leave it. */
    static LabelledVolume full() {
        LabelledVolume v = withFile(0);
        append(v, 3, 8 * v.state(2));
        return v;
    }

    /** Makes all free sectors unreadable but the lowest few: how many it made so. */
    static int scratchFree(LabelledVolume v, int spared) {
        int free = 0;
        for (int sector = 0; sector < 40; sector++) {
            if (v.label(sector, 0) == 0) {
                free++;
                if (free > spared) {
                    v.scratch(sector);
                }
            }
        }
        return Math.max(0, free - spared);
    }

    /** All that can be seen of the sectors that are in use, and which of the others are free. */
    static String picture(LabelledVolume v) {
        StringBuilder text = new StringBuilder();
        for (int sector = 0; sector < 40; sector++) {
            int serial = v.label(sector, 0);
            text.append(serial);
            for (int what = 1; serial > 0 && what < 5; what++) {
                text.append(' ').append(v.label(sector, what));
            }
            for (int i = 0; serial > 0 && i < 8; i++) {
                text.append(' ').append(v.data(sector, i));
            }
            text.append('\n');
        }
        return text.toString();
    }
}
