import java.util.ArrayList;
import java.util.Arrays;
import java.util.List;
import java.util.function.Supplier;

/** The sentences of promises 14 to 17: seen, word, known, isSame. */
public final class ReadingBoundsTest extends Bounds {
    public static void main(String[] args) {
        run(ReadingBoundsTest.class);
    }

    // ---- promise 14: seen

    /** The flag 9 is the mirror of 3; the flags 0 to 2 are of one colour. */
    private static MastFlags mirrored() {
        MastFlags x = Masts.withBook();
        x.paint(9, 2, 3, 0);
        return x;
    }

    @Says("Returns the flag for which a reader takes a sign.")
    static void promise14TheFlagForWhichItIsTaken() {
        MastFlags x = mirrored();
        bendAll(x, 0, 3, 9, PENNANT + 1, PENNANT + 2);
        int[] front = {3, 9, 3, 9};
        int[] behind = {9, 3, 9, 3};
        for (int place = 1; place <= 4; place++) {
            due("front", x.seen(0, 0, place), front[place - 1]);
            due("behind", x.seen(1, 0, place), behind[place - 1]);
        }
    }

    @Says("`side`: 0 or 1")
    static void promise14SidesZeroAndOne() {
        takenWithin(() -> hoisted(0, 5), 0, 1, (x, side) -> x.seen(side, 0, 1));
    }

    @Says("`halyard`: 0 to 4")
    static void promise14HalyardsZeroToFour() {
        Supplier<MastFlags> oneEach = () -> {
            MastFlags x = new MastFlags();
            for (int halyard = 0; halyard < 5; halyard++) {
                x.bend(halyard, halyard);
            }
            return x;
        };
        takenWithin(oneEach, 0, 4, (x, halyard) -> x.seen(0, halyard, 1));
        for (int halyard = 0; halyard < 5; halyard++) {
            due("the flag of this one", oneEach.get().seen(0, halyard, 1), halyard);
        }
    }

    @Says({"`place`: 1 for the uppermost one", "Returns the flag"})
    static void promise14PlacesFromTheTop() {
        Supplier<MastFlags> four = () -> hoisted(4, 7, 6, 5, 4);
        for (int place = 1; place <= 4; place++) {
            int asked = place;
            tells("place " + place, four, x -> x.seen(0, 4, asked), 8 - place);
        }
    }

    @Says("BAD_VALUE if side is out of range")
    static void promise14BadValue() {
        refusedOutside(0, 1, (x, side) -> x.seen(side, 0, 1), BAD_VALUE);
    }

    @Says("NO_SUCH if there is no such halyard or place")
    static void promise14NoSuchHalyard() {
        refusedOutside(0, 4, (x, halyard) -> x.seen(0, halyard, 1), NO_SUCH);
        refusedOutside(0, 4, (x, halyard) -> x.seen(1, halyard, 1), NO_SUCH);
    }

    @Says("NO_SUCH if there is no such halyard or place")
    static void promise14NoSuchPlace() {
        refusedOutside(1, 4, (x, place) -> x.seen(1, 0, place), NO_SUCH);
        for (int size = 0; size <= 4; size++) {
            int[] signs = Arrays.copyOf(new int[] {4, 5, 6, 7}, size);
            for (int place = size + 1; place <= 5; place++) {
                int asked = place;
                refused("place " + place + " of " + size, () -> hoisted(3, signs), x -> x.seen(0, 3, asked), NO_SUCH);
            }
        }
    }

    @Says("NONE if it is not known")
    static void promise14None() {
        tells("no flag looks so", () -> hoisted(0, 3), x -> x.seen(1, 0, 1), NONE);
        tells("it droops", Snapshot.behind(() -> hoisted(0, 9), y -> y.setWind(3, 0)), x -> x.seen(0, 0, 1), NONE);
        tells("the pennant below it", Snapshot.behind(() -> hoisted(0, 9, PENNANT + 1), y -> y.setWind(3, 0)),
                x -> x.seen(0, 0, 2), NONE);
        due("it does not droop", hoisted(0, 9).seen(0, 0, 1), 1);
    }

    @Says({"BAD_VALUE if side is out of range", "NO_SUCH if there is no such halyard or place",
        "NONE if it is not known"})
    static void promise14OrderOfErrors() {
        refusedEverywhere("side ahead of halyard", x -> x.seen(2, 5, 1), BAD_VALUE);
        refusedEverywhere("side ahead of place", x -> x.seen(-1, 0, 0), BAD_VALUE);
        refused("side ahead of NONE", () -> hoisted(0, 3), x -> x.seen(2, 0, 1), BAD_VALUE);
        refused("place ahead of NONE", () -> hoisted(0, 3), x -> x.seen(1, 0, 2), NO_SUCH);
    }

    // ---- promise 15: word

    /** One known word on each of the halyards; 50 + halyard % 3. */
    private static MastFlags words(int... halyards) {
        MastFlags x = Masts.withBook();
        for (int halyard : halyards) {
            taken("bend", x.bend(halyard, halyard % 3));
        }
        return x;
    }

    @Says("Returns a word of the message that a reader reads.")
    static void promise15WordsOfTheMessage() {
        MastFlags x = words(0, 1, 2, 3, 4);
        for (int word = 0; word < 5; word++) {
            due("front", x.word(0, word), 50 + word % 3);
            due("behind", x.word(1, word), 50 + (4 - word) % 3);
        }
    }

    @Says("`side`: 0 or 1")
    static void promise15SidesZeroAndOne() {
        takenWithin(() -> words(2), 0, 1, (x, side) -> x.word(side, 0));
    }

    @Says("`word`: 0 for the first hoist that the reader sees and that is not empty, and so on")
    static void promise15EmptyHoistsDoNotCount() {
        due("the last halyard alone, front", words(4).word(0, 0), 51);
        due("the last halyard alone, behind", words(4).word(1, 0), 51);
        due("the first halyard alone, behind", words(0).word(1, 0), 50);
        MastFlags x = words(1, 3, 4);
        int[] front = {51, 50, 51};
        int[] behind = {51, 50, 51};
        for (int word = 0; word < 3; word++) {
            due("front", x.word(0, word), front[word]);
            due("behind", x.word(1, word), behind[word]);
        }
        MastFlags uneven = words(0, 2);
        due("front, first", uneven.word(0, 0), 50);
        due("front, second", uneven.word(0, 1), 52);
        due("behind, first", uneven.word(1, 0), 52);
        due("behind, second", uneven.word(1, 1), 50);
    }

    @Says("Returns the word")
    static void promise15ReturnsTheWord() {
        for (int word : new int[] {0, 1, 99}) {
            MastFlags x = hoisted(2, 5);
            x.enter(15, word);
            due("the word", x.word(0, 0), word);
        }
        tells("the word", Masts::brimful, x -> x.word(1, 1), 54);
    }

    @Says("BAD_VALUE if side is out of range")
    static void promise15BadValue() {
        refusedOutside(0, 1, (x, side) -> x.word(side, 0), BAD_VALUE);
    }

    @Says("NO_SUCH if there are not so many")
    static void promise15NoSuch() {
        refusedOutside(0, 4, (x, word) -> x.word(0, word), NO_SUCH);
        refusedOutside(0, 4, (x, word) -> x.word(1, word), NO_SUCH);
        for (int side = 0; side <= 1; side++) {
            int reader = side;
            refused("no hoists", MastFlags::new, x -> x.word(reader, 0), NO_SUCH);
            refused("1 of 1", () -> words(3), x -> x.word(reader, 1), NO_SUCH);
            refused("2 of 2", () -> words(0, 4), x -> x.word(reader, 2), NO_SUCH);
            refused("4 of 4", () -> words(0, 1, 2, 3), x -> x.word(reader, 4), NO_SUCH);
            refused("5 of 5", () -> words(0, 1, 2, 3, 4), x -> x.word(reader, 5), NO_SUCH);
            refused("-1 of 5", () -> words(0, 1, 2, 3, 4), x -> x.word(reader, -1), NO_SUCH);
            refused("lowered", Snapshot.behind(() -> words(1), y -> y.lower()), x -> x.word(reader, 0), NO_SUCH);
        }
    }

    @Says("NONE if the word is not known")
    static void promise15None() {
        tells("an empty book", () -> hoisted(0, 5), x -> x.word(0, 0), NONE);
        MastFlags x = words(0, 4);
        x.bend(2, 9);
        due("in the middle", x.word(0, 1), NONE);
        due("behind it", x.word(0, 2), 51);
        due("no fourth", x.word(0, 3), NO_SUCH);
    }

    /** Those of all the 11,110 numbers that an entry may have by which the front reads a word. */
    private static String numbersRead(Supplier<MastFlags> make) {
        List<Integer> numbers = new ArrayList<>();
        for (int first : new int[] {10, 100, 1000, 10000}) {
            for (int number = first; number < 2 * first; number += 12) {
                MastFlags x = make.get();
                for (int entry = 0; entry < 12 && number + entry < 2 * first; entry++) {
                    x.enter(number + entry, entry);
                }
                int word = x.word(0, 0);
                if (word != NONE) {
                    numbers.add(number + word);
                }
            }
        }
        return numbers.toString();
    }

    @Says("NONE if the word is not known")
    static void promise15NoneWhateverTheBookIs() {
        int[][] hoists = {{9}, {9, 1}, {1, 9}, {0, 9}, {9, 9}, {1, 9, 1}, {5, 5, 9}, {9, 5, 5}, {2, 3, 4, 9}, {9, 3, 4, 5},
            {1, 9, PENNANT + 2, 5}, {1, 2, 9, 3}, {9, PENNANT + 1, PENNANT + 2, PENNANT + 3}};
        for (int[] signs : hoists) {
            Supplier<MastFlags> make = Snapshot.behind(() -> hoisted(2, signs), x -> x.setWind(3, 0));
            same("a hoist of " + Arrays.toString(signs), numbersRead(make), "[]");
        }
    }

    @Says("Returns the word")
    static void promise15ByOneNumberAlone() {
        int[][] hoists = {{0}, {5}, {0, 0}, {5, 0}, {0, 5}, {0, 0, 0}, {1, 2, 3}, {0, 0, 0, PENNANT + 1}, {4, 3, 2, 1},
            {7, PENNANT + 1, 6, PENNANT + 2}};
        int[] numbers = {10, 15, 100, 150, 105, 1000, 1123, 10000, 14321, 17767};
        for (int index = 0; index < hoists.length; index++) {
            int[] signs = hoists[index];
            same("a hoist of " + Arrays.toString(signs), numbersRead(() -> hoisted(4, signs)), "[" + numbers[index] + "]");
        }
    }

    @Says("Returns the word")
    static void promise15ByEachOfTwelveEntries() {
        for (int entry = 0; entry < 12; entry++) {
            MastFlags x = hoisted(1, 5, 4, 3, 2);
            for (int other = 0; other < 12; other++) {
                x.enter(other == entry ? 15432 : 15433, other);
            }
            due("the entry " + entry, x.word(0, 0), entry);
        }
    }

    @Says({"BAD_VALUE if side is out of range", "NO_SUCH if there are not so many"})
    static void promise15OrderOfErrors() {
        refusedEverywhere("side ahead of word", x -> x.word(2, 5), BAD_VALUE);
        refusedEverywhere("side ahead of word, both too small", x -> x.word(-1, -1), BAD_VALUE);
    }

    // ---- promise 16: known

    @Says({"Tells how much a reader reads.", "Returns the number of words that the reader knows"})
    static void promise16NumberOfWords() {
        due("no hoists", new MastFlags().known(0), 0);
        due("no hoists, behind", new MastFlags().known(1), 0);
        due("one that is not known", hoisted(0, 5).known(0), 0);
        MastFlags x = new MastFlags();
        x.setStock(3);
        for (int halyard = 0; halyard < 5; halyard++) {
            x.bend(halyard, 3 + halyard);
            x.enter(13 + halyard, halyard);
            due("front", x.known(0), halyard + 1);
            due("behind, none is mirrored", x.known(1), 0);
        }
        x.setWind(5, 1);
        due("front, the wind turned", x.known(0), 0);
        due("behind, the wind turned", x.known(1), 5);
        x.setWind(2, 1);
        due("behind, the heavy ones droop", x.known(1), 3);
        tells("words, not signs", () -> words(0, 1, 4), y -> y.known(1), 3);
    }

    @Says("`side`: 0 or 1")
    static void promise16SidesZeroAndOne() {
        takenWithin(0, 1, MastFlags::known);
        takenWithin(Masts::full, 0, 1, MastFlags::known);
    }

    @Says("BAD_VALUE if side is out of range")
    static void promise16BadValue() {
        refusedOutside(0, 1, MastFlags::known, BAD_VALUE);
    }

    // ---- promise 17: isSame

    @Says("Returns 1 if there are hoists that are not empty")
    static void promise17NoHoists() {
        tells("a new object", MastFlags::new, x -> x.isSame(), 0);
        tells("a book alone", Masts::withBook, x -> x.isSame(), 0);
        tells("lowered", Snapshot.behind(() -> words(2), y -> y.lower()), x -> x.isSame(), 0);
        tells("one hoist", () -> words(2), x -> x.isSame(), 1);
        tells("one hoist at the side", () -> words(4), x -> x.isSame(), 1);
    }

    @Says("both readers know all words")
    static void promise17BothKnowAllWords() {
        tells("neither knows it", () -> hoisted(2, 5), x -> x.isSame(), 0);
        MastFlags front = hoisted(2, 5);
        front.enter(15, 1);
        due("the front alone", front.isSame(), 0);
        front.setWind(5, 1);
        due("behind alone", front.isSame(), 0);
        MastFlags x = words(0, 3);
        due("both", x.isSame(), 1);
        x.bend(2, 9);
        due("but for one in the middle", x.isSame(), 0);
    }

    @Says("both read the same words in the same order")
    static void promise17SameWordsInTheSameOrder() {
        tells("50, 51", () -> words(0, 1), x -> x.isSame(), 0);
        tells("50, 50", () -> words(0, 3), x -> x.isSame(), 1);
        tells("51, 50, 51", () -> words(1, 3, 4), x -> x.isSame(), 1);
        tells("50, 51, 52, 50, 51", () -> words(0, 1, 2, 3, 4), x -> x.isSame(), 0);
        MastFlags five = words(0, 1, 2, 3);
        five.bend(4, 0);
        due("50, 51, 52, 50, 50", five.isSame(), 0);
        five.unbend(3);
        five.bend(3, 1);
        due("50, 51, 52, 51, 50", five.isSame(), 1);
    }

    /** What is taken for another flag may tell the same word. */
    @Says("both read the same words in the same order")
    static void promise17WordsNotFlags() {
        MastFlags x = new MastFlags();
        x.paint(6, 2, 3, 0);
        x.enter(13, 20);
        x.enter(16, 20);
        x.bend(0, 3);
        due("one word by two flags", x.isSame(), 1);
        x.strike(1);
        x.enter(16, 21);
        due("another word", x.isSame(), 0);
    }

    /** The mirrored flags on the halyards 0 and 4 are read alike by one reader first, not by the other last. */
    @Says("both read the same words in the same order")
    static void promise17UpToTheFifthWord() {
        MastFlags x = Masts.withBook();
        x.paint(6, 5, 6, 0);
        x.paint(7, 6, 5, 0);
        x.enter(16, 50);
        x.enter(17, 51);
        bendAll(x, 0, 0);
        for (int halyard = 1; halyard <= 3; halyard++) {
            bendAll(x, halyard, 2);
        }
        bendAll(x, 4, 7);
        due("front, the first", x.word(0, 0), 50);
        due("behind, the first", x.word(1, 0), 50);
        due("front, the fifth", x.word(0, 4), 51);
        due("behind, the fifth", x.word(1, 4), 50);
        due("isSame", x.isSame(), 0);
        x.unbend(0);
        x.bend(0, 6);
        due("front, the first", x.word(0, 0), 50);
        due("behind, the fifth", x.word(1, 4), 51);
        due("isSame now", x.isSame(), 1);
    }

    /** As the words tell one by one. */
    @Says({"Returns 1 if there are hoists that are not empty", "otherwise 0"})
    static void promise17AsTheWordsTell() {
        for (int manners = 0; manners < Masts.MANNERS; manners++) {
            MastFlags x = Masts.ofManners(manners);
            int hoists = x.total(4);
            boolean isSame = hoists > 0;
            for (int word = 0; word < hoists; word++) {
                isSame = isSame && x.word(0, word) >= 0 && x.word(0, word) == x.word(1, word);
            }
            due("manners " + manners, x.isSame(), isSame ? 1 : 0);
        }
    }

    @Says("otherwise 0")
    static void promise17Otherwise() {
        tells("full", Masts::full, x -> x.isSame(), 0);
        tells("brimful", Masts::brimful, x -> x.isSame(), 0);
    }
}
