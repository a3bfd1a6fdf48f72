import java.util.function.Supplier;
import java.util.function.ToIntFunction;

/** Counts the answers that are not due, and ends the test with exit code 1 if there was one. */
final class Checks {
    private int made = 0;
    private int wrong = 0;

    int made() {
        return made;
    }

    void due(String what, long got, long want) {
        made++;
        if (got != want) {
            wrong++;
            System.out.println(what + " answered " + got + ", due is " + want);
        }
    }

    void same(String what, String got, String want) {
        made++;
        if (!got.equals(want)) {
            wrong++;
            int at = firstDifference(got, want);
            System.out.println(what + " gave .." + around(got, at) + ".., due is .." + around(want, at) + "..");
        }
    }

    private static int firstDifference(String one, String other) {
        int at = 0;
        while (at < one.length() && at < other.length() && one.charAt(at) == other.charAt(at)) {
            at++;
        }
        return at;
    }

    private static String around(String text, int at) {
        return text.substring(Math.max(0, at - 60), Math.min(text.length(), at + 60));
    }

    /** The call answers the error code and changes nothing: a twin without the call looks the same. */
    void refused(String what, Supplier<MastFlags> make, ToIntFunction<MastFlags> call, int code) {
        MastFlags asked = make.get();
        due(what, call.applyAsInt(asked), code);
        same(what + ", then all", Snapshot.ofAll(Snapshot.behind(make, call)), Snapshot.ofAll(make));
    }

    /** The call only tells something: a twin without the call looks the same. */
    void onlyTells(String what, Supplier<MastFlags> make, ToIntFunction<MastFlags> call, int want) {
        refused(what, make, call, want);
    }

    /** The call gives the answer, and one undo() brings the state ahead of it back. */
    void undoable(String what, Supplier<MastFlags> make, ToIntFunction<MastFlags> call, int want) {
        MastFlags asked = make.get();
        due(what, call.applyAsInt(asked), want);
        due(what + ", then undo() fails", asked.undo() < 0 ? 1 : 0, 0);
        same(what + ", undone", Snapshot.ofState(asked), Snapshot.ofState(make.get()));
    }

    /** What total(7) is behind the call. */
    void pennantBehind(String what, Supplier<MastFlags> make, ToIntFunction<MastFlags> call, int want) {
        MastFlags asked = make.get();
        due(what + " fails", call.applyAsInt(asked) < 0 ? 1 : 0, 0);
        due(what + ", then total(7)", asked.total(7), want);
    }

    void finish() {
        System.out.println(made + " checks, " + wrong + " wrong");
        if (wrong != 0) {
            System.exit(1);
        }
    }
}
