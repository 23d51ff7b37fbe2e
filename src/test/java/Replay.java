import java.util.ArrayList;
import java.util.List;
import java.util.NoSuchElementException;
import java.util.function.Consumer;

/**
 * A run of calls that is made again on new objects, as often as there is something to look at: so much can be
 * looked at that one object would be asked for more than the 512 calls that the document promises.
 */
final class Replay {
    /** So many sectors are looked at on one object. */
    static final int SLICE = 10;

    private final List<Consumer<LabelledVolume>> calls = new ArrayList<>();

    void add(Consumer<LabelledVolume> call) {
        calls.add(call);
    }

    int size() {
        return calls.size();
    }

    /** A new volume on which the first calls were made. */
    LabelledVolume upTo(int count) {
        LabelledVolume v = new LabelledVolume();
        for (Consumer<LabelledVolume> call : calls.subList(0, count)) {
            thrownBy(call, v);
        }
        return v;
    }

    /** What call k throws on a volume on which those before it were made; an empty text for nothing. */
    String thrownByCall(int k, LabelledVolume v) {
        return thrownBy(calls.get(k), v);
    }

    /** Nothing is caught but what the document names: all else ends the test. */
    private static String thrownBy(Consumer<LabelledVolume> call, LabelledVolume v) {
        try {
            call.accept(v);
            return "";
        } catch (UnsupportedOperationException | NoSuchElementException | IllegalArgumentException
                | IllegalStateException e) {
            return e.getClass().getSimpleName();
        } catch (IndexOutOfBoundsException e) {
            // The document's own is this very class; an array beyond its bounds throws a class below it.
            if (e.getClass() != IndexOutOfBoundsException.class) {
                throw e;
            }
            return e.getClass().getSimpleName();
        }
    }

    /** All that can be seen of all sectors behind the first calls. */
    String picture(int count) {
        StringBuilder text = new StringBuilder();
        for (int first = 0; first < 40; first += SLICE) {
            LabelledVolume v = upTo(count);
            for (int sector = first; sector < first + SLICE; sector++) {
                for (int what = 0; what < 5; what++) {
                    text.append(v.label(sector, what)).append(' ');
                }
                for (int i = 0; i < 8; i++) {
                    text.append(v.data(sector, i)).append(' ');
                }
            }
        }
        return text.toString();
    }
}
