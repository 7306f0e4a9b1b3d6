import java.util.Arrays;
import java.util.function.Consumer;
import java.util.function.Supplier;

/** Counts the answers that are not as due; every test ends with end(). */
final class Checks {
    private final String test;
    private int made;
    private int wrong;

    Checks(String test) {
        this.test = test;
    }

    void due(String call, long got, long want) {
        made++;
        if (got != want) {
            wrong++;
            System.out.println(test + ": " + call + " answered " + got + ", due is " + want);
        }
    }

    void due(String call, boolean got, boolean want) {
        due(call, got ? 1 : 0, want ? 1 : 0);
    }

    /** A call that may be refused, and the trouble it has to leave. */
    void due(CourtProgress x, String call, long got, long want, int trouble) {
        due(call, got, want);
        due("trouble() after " + call, x.trouble(), trouble);
    }

    void due(CourtProgress x, String call, boolean got, int trouble) {
        due(x, call, got ? 1 : 0, trouble == 0 ? 1 : 0, trouble);
    }

    /** Two objects with the same calls answer alike, though one had one call more. */
    void changesNothing(String what, Supplier<CourtProgress> made, Consumer<CourtProgress> call) {
        CourtProgress x = made.get();
        call.accept(x);
        due("the first change by " + what, Arrays.mismatch(Snapshot.of(made.get()), Snapshot.of(x)), -1);
    }

    boolean isWrong() {
        return wrong > 0;
    }

    void end() {
        System.out.println(test + ": " + made + " answers, " + wrong + " not as due");
        if (wrong > 0 || made == 0) {
            System.exit(1);
        }
    }
}
