import java.lang.reflect.InvocationTargetException;
import java.lang.reflect.Method;
import java.util.ArrayList;
import java.util.Comparator;
import java.util.List;
import java.util.function.Supplier;
import java.util.function.ToIntBiFunction;
import java.util.function.ToIntFunction;

/** What the tests of single sentences share; each of them is a method that is marked with Says. */
abstract class Bounds {
    static final int NO_SUCH = MastFlags.NO_SUCH;
    static final int BAD_VALUE = MastFlags.BAD_VALUE;
    static final int NOT_POSSIBLE = MastFlags.NOT_POSSIBLE;
    static final int LIMIT = MastFlags.LIMIT;
    static final int BAD_TEXT = MastFlags.BAD_TEXT;
    static final int NONE = MastFlags.NONE;
    static final int PENNANT = MastFlags.PENNANT;

    /** Masts on which a call with a wrong argument is refused alike. */
    private static final List<Supplier<MastFlags>> EVERYWHERE =
            List.of(MastFlags::new, Masts::signalling, Masts::full, Masts::brimful);
    private static final List<String> EVERYWHERE_ALL = EVERYWHERE.stream().map(Snapshot::ofAll).toList();

    private static final Checks checks = new Checks();
    private static String test = "";

    static List<Method> testsOf(Class<?> tests) {
        List<Method> found = new ArrayList<>();
        for (Method method : tests.getDeclaredMethods()) {
            if (method.isAnnotationPresent(Says.class)) {
                found.add(method);
            }
        }
        found.sort(Comparator.comparing(Method::getName));
        return found;
    }

    static void run(Class<?> tests) {
        for (Method method : testsOf(tests)) {
            test = method.getName();
            int made = checks.made();
            try {
                method.invoke(null);
            } catch (IllegalAccessException | InvocationTargetException failure) {
                failure.printStackTrace(System.out);
                due("failures", 1, 0);
            }
            due("tests without a check", checks.made() == made ? 1 : 0, 0);
        }
        System.out.println(testsOf(tests).size() + " tests");
        checks.finish();
    }

    static void due(String what, long got, long want) {
        checks.due(test + ": " + what, got, want);
    }

    static void same(String what, String got, String want) {
        checks.same(test + ": " + what, got, want);
    }

    /** The call returns no error code. */
    static void taken(String what, int answer) {
        due(what + " fails with " + answer, isError(answer) ? 1 : 0, 0);
    }

    static boolean isError(int answer) {
        return answer < 0 && answer != NONE;
    }

    /** The call is refused with the code, and the object answers afterwards as it did before. */
    static void refused(String what, Supplier<MastFlags> make, ToIntFunction<MastFlags> call, int code) {
        checks.refused(test + ": " + what, make, call, code);
    }

    static void refusedEverywhere(String what, ToIntFunction<MastFlags> call, int code) {
        for (int mast = 0; mast < EVERYWHERE.size(); mast++) {
            Supplier<MastFlags> make = EVERYWHERE.get(mast);
            due(what + " on mast " + mast, call.applyAsInt(make.get()), code);
            same(what + " on mast " + mast + ", then all", Snapshot.ofAll(Snapshot.behind(make, call)),
                    EVERYWHERE_ALL.get(mast));
        }
    }

    /** Every argument below low or above high is refused, the nearest and the farthest ones among them. */
    static void refusedOutside(int low, int high, ToIntBiFunction<MastFlags, Integer> call, int code) {
        int[] outside = {low - 1, low - 2, low - 10, low - 256, low - 65536, Integer.MIN_VALUE + 1,
            Integer.MIN_VALUE, high + 1, high + 2, high + 10, high + 256, high + 65536,
            Integer.MAX_VALUE - 1, Integer.MAX_VALUE};
        for (int value : outside) {
            refusedEverywhere("the argument " + value, x -> call.applyAsInt(x, value), code);
        }
    }

    /** Every argument from low to high is taken, and those beside them are not. */
    static void takenWithin(int low, int high, ToIntBiFunction<MastFlags, Integer> call) {
        takenWithin(MastFlags::new, low, high, call);
    }

    static void takenWithin(Supplier<MastFlags> make, int low, int high, ToIntBiFunction<MastFlags, Integer> call) {
        for (int value = low - 1; value <= high + 1; value++) {
            int answer = call.applyAsInt(make.get(), value);
            boolean isWithin = value >= low && value <= high;
            due("the argument " + value + " fails with " + answer, isError(answer) ? 1 : 0, isWithin ? 0 : 1);
        }
    }

    /** The call tells something and changes nothing. */
    static void tells(String what, Supplier<MastFlags> make, ToIntFunction<MastFlags> call, int want) {
        checks.refused(test + ": " + what, make, call, want);
    }

    /** The call records one state, which undo() brings back. */
    static void undoable(String what, Supplier<MastFlags> make, ToIntFunction<MastFlags> call) {
        MastFlags x = make.get();
        taken(what, call.applyAsInt(x));
        int recorded = Math.min(recordedBy(make.get()) + 1, 5);
        due(what + ", recorded states", recordedBy(Snapshot.behind(make, call).get()), recorded);
        due(what + ", undo()", x.undo(), recorded - 1);
        same(what + ", undone", Snapshot.ofState(x), Snapshot.ofState(make.get()));
    }

    /** Not even undo() shows that there was the call. */
    static void recordsNothing(String what, Supplier<MastFlags> make, ToIntFunction<MastFlags> call) {
        int recorded = recordedBy(make.get());
        due(what + ", recorded states", recordedBy(Snapshot.behind(make, call).get()), recorded);
    }

    /** Counts the recorded states and uses them up. */
    static int recordedBy(MastFlags x) {
        int count = 0;
        while (count < 100 && x.undo() >= 0) {
            count++;
        }
        return count;
    }

    static String textOf(int length) {
        return "0:0r1r2r3,1:1r1r2r3,2:2r1r2r3,3:3r1r2r3,4:4r1r2r3x".substring(0, length);
    }

    static MastFlags typed(String text) {
        MastFlags x = new MastFlags();
        Masts.type(x, text);
        return x;
    }

    /** A mast with a stock of 3 and one hoist of these signs on the halyard. */
    static MastFlags hoisted(int halyard, int... signs) {
        MastFlags x = new MastFlags();
        x.setStock(3);
        bendAll(x, halyard, signs);
        return x;
    }

    static void bendAll(MastFlags x, int halyard, int... signs) {
        for (int sign : signs) {
            taken("bend(" + halyard + ", " + sign + ")", x.bend(halyard, sign));
        }
    }

    /** The halyard k tells the word 50 + k by a flag of one colour, on so many halyards. */
    static MastFlags known(int halyards) {
        MastFlags x = new MastFlags();
        for (int halyard = 0; halyard < halyards; halyard++) {
            x.paint(halyard, halyard, halyard, 0);
            x.enter(10 + halyard, 50 + halyard);
            x.bend(halyard, halyard);
        }
        return x;
    }
}
