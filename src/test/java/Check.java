import java.util.function.Consumer;
import java.util.function.Supplier;

/** Counts answers that are not the due ones, prints each, and ends the test with exit code 1 if there was one. */
final class Check {
    interface Call {
        void run();
    }

    private int checked = 0;
    private int wrong = 0;

    void is(long due, long got, String what) {
        note(due == got, what + " answered " + got + ", due is " + due);
    }

    void is(boolean due, boolean got, String what) {
        note(due == got, what + " answered " + got + ", due is " + due);
    }

    void fails(Class<? extends RuntimeException> due, Call call, String what) {
        String got = "no exception";
        try {
            call.run();
        } catch (RuntimeException e) {
            got = e.getClass().getSimpleName();
        }
        note(got.equals(due.getSimpleName()), what + " gave " + got + ", due is " + due.getSimpleName());
    }

    /**
     * A call that throws something else than for want of power, on a new volume, as two pictures of one take some
     * 300 of the 512 calls that an object promises: it changes nothing but the misses, which are counted.
     */
    void refused(Supplier<LabelledVolume> maker, int misses, Class<? extends RuntimeException> due,
            Consumer<LabelledVolume> call, String what) {
        LabelledVolume v = maker.get();
        String before = Volumes.picture(v);
        int missed = v.state(0);
        int written = v.state(1);
        int power = v.state(4);
        fails(due, () -> call.accept(v), what);
        is(missed + misses, v.state(0), "misses behind " + what);
        is(written, v.state(1), "sectors written behind " + what);
        is(power, v.state(4), "power behind " + what);
        note(before.equals(Volumes.picture(v)), what + " changed a sector");
    }

    /** A label: serial, page, USED, NEXT, BEFORE. */
    void label(LabelledVolume v, int sector, int... due) {
        for (int what = 0; what < due.length; what++) {
            is(due[what], v.label(sector, what), "label(" + sector + ", " + what + ")");
        }
    }

    /** The first bytes of a sector's data. */
    void data(LabelledVolume v, int sector, int... due) {
        for (int i = 0; i < due.length; i++) {
            is(due[i], v.data(sector, i), "data(" + sector + ", " + i + ")");
        }
    }

    void misses(LabelledVolume v, int due, String when) {
        is(due, v.state(0), "misses " + when);
    }

    void written(LabelledVolume v, int due, String when) {
        is(due, v.state(1), "sectors written " + when);
    }

    void note(boolean right, String message) {
        checked++;
        if (!right) {
            wrong++;
            System.out.println(place() + ": " + message);
        }
    }

    /** The lines of the test that led here. */
    private static String place() {
        StringBuilder lines = new StringBuilder();
        for (StackTraceElement e : new Throwable().getStackTrace()) {
            if (!e.getClassName().startsWith("Check") && !e.getMethodName().equals("main")) {
                lines.append(lines.length() == 0 ? e.getFileName() + ":" : ", ").append(e.getLineNumber());
            }
        }
        return lines.length() == 0 ? "main" : lines.toString();
    }

    void end() {
        System.out.println(checked + " checked, " + wrong + " wrong");
        if (wrong > 0 || checked == 0) {
            System.exit(1);
        }
    }
}
