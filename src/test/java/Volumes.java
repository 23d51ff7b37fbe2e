/** Volumes that several tests begin with. */
final class Volumes {
    private Volumes() {
    }

    /** File 3 with name 1 in the root: its leader is in sector 3, the root's page in 4, its pages in 5, 6, .. */
    static LabelledVolume withFile(int bytes) {
        LabelledVolume v = new LabelledVolume();
        v.create(1, 1, false);
        append(v, 3, bytes);
        return v;
    }

    /** Appends bytes that count on from the length: byte i is i + 1. */
    static void append(LabelledVolume v, int file, int bytes) {
        int length = v.length(file);
        for (int i = length; i < length + bytes; i++) {
            v.write(file, i, i + 1);
        }
    }

    /** A volume whose file 3 has all the sectors that the root and the map leave it. */
    static LabelledVolume full() {
        LabelledVolume v = withFile(0);
        append(v, 3, 8 * v.state(2));
        return v;
    }

    /** All that can be seen of the sectors, as a text. */
    static String picture(LabelledVolume v) {
        StringBuilder text = new StringBuilder();
        for (int sector = 0; sector < 40; sector++) {
            for (int what = 0; what < 5; what++) {
                text.append(v.label(sector, what)).append(' ');
            }
            for (int i = 0; i < 8; i++) {
                text.append(v.data(sector, i)).append(' ');
            }
            text.append('\n');
        }
        return text.toString();
    }
}
