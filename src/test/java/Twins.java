import java.util.function.Supplier;
import java.util.function.ToIntFunction;

/**
 * Two objects are brought to the same place; one is asked what must be refused, the other is not.
 * Whatever can be told of either must be the same then, but for finding() and findings().
 */
final class Twins {
    static final int BAD = -1, FULL = -2, FINDING = -3, STATE = -4;

    private final Due due;

    Twins(Due due) {
        this.due = due;
    }

    void bad(String call, Supplier<ShadeNames> start, ToIntFunction<ShadeNames> asking) {
        refused(call, start, asking, BAD, 0);
    }

    void full(String call, Supplier<ShadeNames> start, ToIntFunction<ShadeNames> asking) {
        refused(call, start, asking, FULL, 0);
    }

    void state(String call, Supplier<ShadeNames> start, ToIntFunction<ShadeNames> asking) {
        refused(call, start, asking, STATE, 0);
    }

    void found(String call, Supplier<ShadeNames> start, ToIntFunction<ShadeNames> asking, int finding) {
        refused(call, start, asking, FINDING, finding);
    }

    private void refused(String call, Supplier<ShadeNames> start, ToIntFunction<ShadeNames> asking,
            int want, int finding) {
        ShadeNames x = start.get();
        ShadeNames twin = start.get();
        due.is(call, asking.applyAsInt(x), want);
        due.is(call + ", finding()", x.finding(), finding == 0 ? twin.finding() : finding);
        for (int f = 1; f <= 5; f++) {
            due.is(call + ", findings(" + f + ")", x.findings(f), twin.findings(f) + (f == finding ? 1 : 0));
        }
        alike(call, x, twin);
    }

    /** Ends both: what is hidden is brought to light by going on from what was kept, and by undoing. */
    private void alike(String call, ShadeNames x, ShadeNames twin) {
        due.is(call + " changes asked()", x.asked(), twin.asked());
        due.is(call + " changes upper()", x.upper(), twin.upper());
        due.is(call + " changes lower()", x.lower(), twin.lower());
        due.is(call + " changes digest()", x.digest(), twin.digest());
        due.is(call + " changes undo(0)", x.undo(0), twin.undo(0));
        due.is(call + " changes what was ahead of all deeds", x.digest(), twin.digest());
        for (int k = 0; k < 3; k++) {
            due.is(call + " changes on(" + k + ")", x.on(k), twin.on(k));
            due.is(call + " changes what was kept", x.digest(), twin.digest());
            due.is(call + " changes kept deeds", x.undo(0), twin.undo(0));
            due.is(call + " changes what was ahead of kept deeds", x.digest(), twin.digest());
        }
    }
}
