/** Promises 11 to 13: enter, strike, entry. */
public final class BookTest {
    private static final Checks checks = new Checks();

    public static void main(String[] args) {
        enter();
        enterRefuses();
        strike();
        entry();
        checks.finish();
    }

    private static void enter() {
        int[] numbers = {10, 19, 100, 199, 1000, 1999, 10000, 19999, 1052, 15, 10, 10};
        MastFlags x = new MastFlags();
        for (int index = 0; index < numbers.length; index++) {
            checks.due("enter(" + numbers[index] + ")", x.enter(numbers[index], index), index + 1);
        }
        for (int index = 0; index < numbers.length; index++) {
            checks.due("entry(" + index + ", 0)", x.entry(index, 0), numbers[index]);
            checks.due("entry(" + index + ", 1)", x.entry(index, 1), index);
        }
        checks.due("total(5)", x.total(5), 12);
        checks.due("word 0", new MastFlags().enter(15, 0), 1);
        checks.due("word 99", new MastFlags().enter(15, 99), 1);
        checks.undoable("enter", Masts::signalling, y -> y.enter(15, 7), 4);
        checks.pennantBehind("enter", Masts::atTheDip, y -> y.enter(15, 7), 0);
    }

    private static MastFlags fullBook() {
        MastFlags x = new MastFlags();
        for (int entry = 0; entry < 12; entry++) {
            x.enter(10 + entry % 10, entry);
        }
        return x;
    }

    private static void enterRefuses() {
        int[] wrong = {Integer.MIN_VALUE, -15, -1, 0, 1, 5, 9, 20, 99, 200, 999, 2000, 9999, 20000,
            99999, 100000, 111111, 199999, 1000000, Integer.MAX_VALUE};
        for (int number : wrong) {
            checks.refused("enter(" + number + ", 5)", Masts::full, y -> y.enter(number, 5), MastFlags.BAD_VALUE);
        }
        checks.refused("word -1", Masts::full, y -> y.enter(15, -1), MastFlags.BAD_VALUE);
        checks.refused("word 100", Masts::full, y -> y.enter(15, 100), MastFlags.BAD_VALUE);
        checks.refused("full", BookTest::fullBook, y -> y.enter(15, 5), MastFlags.LIMIT);
        checks.refused("full, wrong flags", BookTest::fullBook, y -> y.enter(20, 5), MastFlags.BAD_VALUE);
        checks.refused("full, wrong word", BookTest::fullBook, y -> y.enter(15, 100), MastFlags.BAD_VALUE);
    }

    private static void strike() {
        MastFlags x = fullBook();
        checks.due("the last", x.strike(11), 11);
        checks.due("the last is gone", x.entry(11, 0), MastFlags.NO_SUCH);
        checks.due("the first", x.strike(0), 0);
        checks.due("moved up", x.entry(0, 0), 11);
        checks.due("moved up, its word", x.entry(0, 1), 1);
        checks.due("in the middle", x.strike(4), 5);
        checks.due("ahead of it stays", x.entry(3, 1), 4);
        checks.due("behind it moves up", x.entry(4, 1), 6);
        checks.due("behind it, its flags", x.entry(8, 0), 10);
        checks.due("nine are left", x.total(5), 9);
        checks.due("room again", x.enter(15, 42), 10);
        checks.due("at the end", x.entry(9, 1), 42);
        checks.undoable("strike", Masts::signalling, y -> y.strike(1), 51);
        checks.pennantBehind("strike", Masts::atTheDip, y -> y.strike(2), 0);
        checks.refused("entry -1", Masts::full, y -> y.strike(-1), MastFlags.NO_SUCH);
        checks.refused("entry 3 of 3", Masts::full, y -> y.strike(3), MastFlags.NO_SUCH);
        checks.refused("empty book", MastFlags::new, y -> y.strike(0), MastFlags.NO_SUCH);
        checks.refused("entry 12 of 12", BookTest::fullBook, y -> y.strike(12), MastFlags.NO_SUCH);
    }

    private static void entry() {
        checks.onlyTells("flags", Masts::full, y -> y.entry(2, 0), 12);
        checks.onlyTells("word", Masts::full, y -> y.entry(2, 1), 52);
        checks.refused("entry -1", Masts::full, y -> y.entry(-1, 0), MastFlags.NO_SUCH);
        checks.refused("entry 3 of 3", Masts::full, y -> y.entry(3, 1), MastFlags.NO_SUCH);
        checks.refused("entry ahead of part", Masts::full, y -> y.entry(3, 2), MastFlags.NO_SUCH);
        checks.refused("part -1", Masts::full, y -> y.entry(0, -1), MastFlags.BAD_VALUE);
        checks.refused("part 2", Masts::full, y -> y.entry(0, 2), MastFlags.BAD_VALUE);
    }
}
