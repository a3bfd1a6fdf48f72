import java.util.Arrays;
import java.util.function.Supplier;

/** The sentences of promises 11 to 13: enter, strike, entry. */
public final class BookBoundsTest extends Bounds {
    public static void main(String[] args) {
        run(BookBoundsTest.class);
    }

    /** So many entries; the entry k tells the word 10 * k by the flags k % 10 and 7. */
    private static MastFlags withEntries(int entries) {
        MastFlags x = new MastFlags();
        for (int entry = 0; entry < entries; entry++) {
            taken("enter", x.enter(107 + entry % 10 * 10, wordOf(entry)));
        }
        return x;
    }

    private static int wordOf(int entry) {
        return 10 * entry % 100 + entry / 10;
    }

    private static Supplier<MastFlags> entries(int entries) {
        return () -> withEntries(entries);
    }

    // ---- promise 11: enter

    @Says("Enters a word into the book.")
    static void promise11EntersAtTheEnd() {
        MastFlags x = withEntries(11);
        x.enter(15, 42);
        due("its flags", x.entry(11, 0), 15);
        due("its word", x.entry(11, 1), 42);
        for (int entry = 0; entry < 11; entry++) {
            due("the word ahead of it", x.entry(entry, 1), wordOf(entry));
        }
    }

    @Says("Undoable.")
    static void promise11Undoable() {
        undoable("the first", MastFlags::new, x -> x.enter(10, 0));
        undoable("the last", entries(11), x -> x.enter(19999, 99));
        undoable("close up", Masts::closeUp, x -> x.enter(10, 50));
    }

    @Says("`flags`: its flags, as a number of 1 to 4 decimal digits behind a leading 1")
    static void promise11FlagsOfOneToFourDigits() {
        int leading = 10;
        for (int digits = 1; digits <= 4; digits++) {
            int least = leading;
            due("the least of " + digits, new MastFlags().enter(least, 5), 1);
            due("the greatest of " + digits, new MastFlags().enter(2 * least - 1, 5), 1);
            due("beside the least of " + digits, new MastFlags().enter(least - 1, 5), BAD_VALUE);
            due("beside the greatest of " + digits, new MastFlags().enter(2 * least, 5), BAD_VALUE);
            leading *= 10;
        }
        due("a leading 1 alone", new MastFlags().enter(1, 5), BAD_VALUE);
        due("five digits behind it", new MastFlags().enter(100000, 5), BAD_VALUE);
    }

    /** Every number that could be meant, and none beside it. */
    @Says("BAD_VALUE if flags is not such a number")
    static void promise11EveryNumberUpTo200000() {
        for (int number = -20; number <= 200020; number++) {
            String digits = String.valueOf(number);
            boolean isOne = digits.matches("1[0-9]{1,4}");
            MastFlags x = new MastFlags();
            due("enter(" + number + ", 0)", x.enter(number, 0), isOne ? 1 : BAD_VALUE);
        }
    }

    @Says("the uppermost one first: 15 for the flag 5, 1052 for the flags 0, 5 and 2")
    static void promise11UppermostFirst() {
        MastFlags one = hoisted(0, 5);
        one.enter(15, 33);
        due("15", one.word(0, 0), 33);
        MastFlags three = hoisted(0, 0, 5, 2);
        three.enter(1250, 32);
        due("1250 is the other way round", three.word(0, 0), NONE);
        three.enter(152, 31);
        due("a leading 0 counts", three.word(0, 0), NONE);
        three.enter(1052, 33);
        due("1052", three.word(0, 0), 33);
    }

    @Says("`word`: 0 to 99")
    static void promise11WordsZeroToNinetyNine() {
        takenWithin(0, 99, (x, word) -> x.enter(15, word));
        for (int word = 0; word <= 99; word++) {
            MastFlags x = new MastFlags();
            x.enter(15, word);
            due("its word", x.entry(0, 1), word);
        }
    }

    @Says("Returns the number of entries then")
    static void promise11ReturnsTheNumberOfEntries() {
        MastFlags x = new MastFlags();
        for (int entries = 1; entries <= 12; entries++) {
            due("enter", x.enter(15, 7), entries);
            due("total(5)", x.total(5), entries);
        }
    }

    @Says("BAD_VALUE if flags is not such a number")
    static void promise11BadFlags() {
        int[] wrong = {Integer.MIN_VALUE, Integer.MIN_VALUE + 15, -19999, -15, -1, 0, 1, 2, 9, 20, 99, 200, 210, 999,
            2000, 9999, 20000, 99999, 100000, 111111, 199999, 1000000, 1000000015, 1999999999, Integer.MAX_VALUE};
        for (int flags : wrong) {
            refusedEverywhere("enter(" + flags + ", 5)", x -> x.enter(flags, 5), BAD_VALUE);
        }
    }

    @Says("or if word is out of range")
    static void promise11BadWord() {
        refusedOutside(0, 99, (x, word) -> x.enter(15, word), BAD_VALUE);
    }

    @Says("LIMIT if there are 12 entries")
    static void promise11LimitOfTwelveEntries() {
        refused("a thirteenth", entries(12), x -> x.enter(15, 7), LIMIT);
        refused("one that is there", entries(12), x -> x.enter(107, 0), LIMIT);
        refused("brimful", Masts::brimful, x -> x.enter(11, 51), LIMIT);
        due("the twelfth", withEntries(11).enter(15, 7), 12);
        MastFlags x = withEntries(12);
        x.strike(0);
        due("room again", x.enter(15, 7), 12);
        due("full again", x.enter(15, 7), LIMIT);
        x.undo();
        due("room behind undo", x.enter(15, 7), 12);
    }

    @Says({"BAD_VALUE if flags is not such a number", "LIMIT if there are 12 entries"})
    static void promise11BadValueComesFirst() {
        refused("flags", entries(12), x -> x.enter(20, 7), BAD_VALUE);
        refused("word too large", entries(12), x -> x.enter(15, 100), BAD_VALUE);
        refused("word too small", entries(12), x -> x.enter(15, -1), BAD_VALUE);
    }

    // ---- promise 12: strike

    @Says("Strikes an entry out of the book; those behind it move up.")
    static void promise12ThoseBehindMoveUp() {
        for (int struck = 0; struck < 12; struck++) {
            MastFlags x = withEntries(12);
            x.strike(struck);
            for (int entry = 0; entry < 11; entry++) {
                int from = entry < struck ? entry : entry + 1;
                due("flags", x.entry(entry, 0), 107 + from % 10 * 10);
                due("word", x.entry(entry, 1), wordOf(from));
            }
            due("no twelfth", x.entry(11, 0), NO_SUCH);
            due("entries", x.total(5), 11);
        }
    }

    @Says("Undoable.")
    static void promise12Undoable() {
        undoable("the only one", entries(1), x -> x.strike(0));
        undoable("the first of twelve", entries(12), x -> x.strike(0));
        undoable("the last of twelve", entries(12), x -> x.strike(11));
        undoable("close up", Masts::closeUp, x -> x.strike(2));
        undoable("brimful", Masts::brimful, x -> x.strike(5));
    }

    /** Another entry takes the place of the twelfth one; both calls are undone. */
    @Says("Undoable.")
    static void promise12UndoneBehindAnotherEntry() {
        for (int struck = 0; struck < 12; struck++) {
            MastFlags x = withEntries(12);
            x.strike(struck);
            due("enter", x.enter(19999, 99), 12);
            due("the twelfth", x.entry(11, 1), 99);
            x.undo();
            x.undo();
            same("struck " + struck + ", undone", Snapshot.ofState(x), Snapshot.ofState(withEntries(12)));
        }
    }

    @Says("`entry`: 0 for the first one")
    static void promise12FromTheFirstToTheLast() {
        for (int entries = 1; entries <= 12; entries++) {
            takenWithin(entries(entries), 0, entries - 1, MastFlags::strike);
        }
        MastFlags x = withEntries(12);
        for (int entry = 0; entry < 12; entry++) {
            due("the first one", x.strike(0), wordOf(entry));
        }
        due("empty", x.total(5), 0);
    }

    @Says("Returns its word")
    static void promise12ReturnsItsWord() {
        for (int entry = 0; entry < 12; entry++) {
            due("the word of " + entry, withEntries(12).strike(entry), wordOf(entry));
        }
        MastFlags x = new MastFlags();
        x.enter(15, 0);
        x.enter(15, 99);
        due("the greatest", x.strike(1), 99);
        due("the least", x.strike(0), 0);
    }

    @Says("NO_SUCH if there is no such entry")
    static void promise12NoSuchEntry() {
        refusedOutside(0, 11, MastFlags::strike, NO_SUCH);
        for (int entries = 0; entries <= 12; entries++) {
            for (int entry : new int[] {entries, entries + 1, 11, 12}) {
                if (entry >= entries) {
                    refused(entry + " of " + entries, entries(entries), x -> x.strike(entry), NO_SUCH);
                }
            }
        }
        refused("struck", Snapshot.behind(entries(3), y -> y.strike(2)), x -> x.strike(2), NO_SUCH);
    }

    // ---- promise 13: entry

    @Says({"Returns something about an entry.", "`part`: 0 for its flags, as in enter()"})
    static void promise13PartZero() {
        int[] numbers = {10, 19, 100, 199, 1000, 1999, 10000, 19999, 1052, 15};
        MastFlags x = new MastFlags();
        for (int number : numbers) {
            x.enter(number, 5);
        }
        int[] told = new int[numbers.length];
        for (int entry = 0; entry < numbers.length; entry++) {
            told[entry] = x.entry(entry, 0);
        }
        same("the flags", Arrays.toString(told), Arrays.toString(numbers));
    }

    @Says("1 for its word")
    static void promise13PartOne() {
        MastFlags x = withEntries(12);
        for (int entry = 0; entry < 12; entry++) {
            due("the word of " + entry, x.entry(entry, 1), wordOf(entry));
        }
    }

    @Says({"`entry`: 0 for the first one", "Returns the number"})
    static void promise13FromTheFirstToTheLast() {
        for (int entries = 1; entries <= 12; entries++) {
            takenWithin(entries(entries), 0, entries - 1, (x, entry) -> x.entry(entry, 0));
            takenWithin(entries(entries), 0, entries - 1, (x, entry) -> x.entry(entry, 1));
        }
        tells("flags", entries(12), x -> x.entry(11, 0), 117);
        tells("word", Masts::brimful, x -> x.entry(3, 1), 54);
    }

    @Says("NO_SUCH if there is no such entry")
    static void promise13NoSuchEntry() {
        for (int part = 0; part <= 1; part++) {
            int asked = part;
            refusedOutside(0, 11, (x, entry) -> x.entry(entry, asked), NO_SUCH);
            for (int entries = 0; entries <= 12; entries++) {
                int behind = entries;
                refused("behind " + entries, entries(entries), x -> x.entry(behind, asked), NO_SUCH);
            }
        }
        refused("struck", Snapshot.behind(entries(12), y -> y.strike(0)), x -> x.entry(11, 0), NO_SUCH);
        refused("undone", Snapshot.behind(entries(12), y -> y.undo()), x -> x.entry(11, 1), NO_SUCH);
    }

    @Says("BAD_VALUE if part is out of range")
    static void promise13BadValue() {
        for (int part : new int[] {-1, -2, Integer.MIN_VALUE, 2, 3, 256, 65536, Integer.MAX_VALUE}) {
            refused("part " + part, entries(12), x -> x.entry(11, part), BAD_VALUE);
            refused("part " + part, Masts::full, x -> x.entry(0, part), BAD_VALUE);
        }
    }

    @Says({"NO_SUCH if there is no such entry", "BAD_VALUE if part is out of range"})
    static void promise13NoSuchComesFirst() {
        refused("empty book", MastFlags::new, x -> x.entry(0, 2), NO_SUCH);
        refused("too large", entries(12), x -> x.entry(12, 2), NO_SUCH);
        refused("too small", entries(12), x -> x.entry(-1, -1), NO_SUCH);
    }
}
