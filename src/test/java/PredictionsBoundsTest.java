import java.util.function.Supplier;

/** The sentences of promises 22 to 25: leastWind, ifTurned, mendingExchange, bestEntry. */
public final class PredictionsBoundsTest extends Bounds {
    public static void main(String[] args) {
        run(PredictionsBoundsTest.class);
    }

    /** Flags of one colour, each told by an entry of its own, and of these weights. */
    private static MastFlags weighing(int... weights) {
        MastFlags x = new MastFlags();
        x.setStock(3);
        for (int flag = 0; flag < weights.length; flag++) {
            x.paint(flag, flag, flag, weights[flag]);
            x.enter(10 + flag, 50 + flag);
            x.bend(flag, flag);
        }
        return x;
    }

    // ---- promise 22: leastWind

    @Says("Finds the least strength of the wind with which a reader would know all words")
    static void promise22LeastStrength() {
        for (int weight = 0; weight <= 9; weight++) {
            for (int now = 0; now <= 9; now += 3) {
                MastFlags x = weighing(weight);
                x.setWind(now, 0);
                due("weight " + weight + ", front", x.leastWind(0), weight);
                due("weight " + weight + ", behind", x.leastWind(1), weight);
            }
        }
        due("the heaviest is the first", weighing(8, 1, 0, 7, 7).leastWind(0), 8);
        due("the heaviest is the last", weighing(0, 1, 2, 3, 6).leastWind(1), 6);
        due("the heaviest is in the middle", weighing(0, 1, 9, 3, 6).leastWind(1), 9);
    }

    @Says("with the wind from where it comes from now")
    static void promise22FromWhereItComesNow() {
        MastFlags x = hoisted(0, 9);
        x.paint(1, 7, 7, 0);
        x.enter(19, 1);
        due("front, from the left", x.leastWind(0), 4);
        due("behind, from the left", x.leastWind(1), NONE);
        x.setWind(0, 1);
        due("front, from the right", x.leastWind(0), NONE);
        due("behind, from the right", x.leastWind(1), 4);
        due("the wind stays", x.total(1), 1);
        due("its strength stays", x.total(0), 0);
    }

    /** As if the wind were set to each strength, one after the other. */
    @Says("Returns the strength")
    static void promise22AsIfTheWindWereSet() {
        int[][] weights = {{0}, {9}, {3, 4}, {4, 3}, {5, 5, 5}, {0, 9, 0}, {1, 2, 3, 4, 5}, {9, 8, 7, 6, 5}};
        for (int[] each : weights) {
            for (int from = 0; from <= 1; from++) {
                MastFlags x = weighing(each);
                x.setWind(2, from);
                int told = x.leastWind(1 - from);
                int strength = 0;
                while (strength < 10) {
                    x.setWind(strength, from);
                    if (x.known(1 - from) == each.length) {
                        break;
                    }
                    strength++;
                }
                due("of " + each.length, told, strength);
            }
        }
        tells("brimful", Masts::brimful, x -> x.leastWind(0), 0);
    }

    @Says("`side`: 0 or 1")
    static void promise22SidesZeroAndOne() {
        takenWithin(0, 1, MastFlags::leastWind);
        takenWithin(() -> weighing(3), 0, 1, MastFlags::leastWind);
    }

    @Says("BAD_VALUE if side is out of range")
    static void promise22BadValue() {
        refusedOutside(0, 1, MastFlags::leastWind, BAD_VALUE);
    }

    @Says("NONE if there is none")
    static void promise22None() {
        tells("not in the book", () -> hoisted(0, 5), x -> x.leastWind(0), NONE);
        tells("no flag is the mirror", Masts::full, x -> x.leastWind(1), NONE);
        MastFlags x = weighing(0, 1, 2);
        x.bend(4, 9);
        due("one of four is not in the book", x.leastWind(0), NONE);
        x.strike(1);
        x.unbend(4);
        due("one of three is struck", x.leastWind(1), NONE);
    }

    @Says("or if all hoists are empty")
    static void promise22NoneWithoutHoists() {
        for (int side = 0; side <= 1; side++) {
            int reader = side;
            tells("a new object", MastFlags::new, x -> x.leastWind(reader), NONE);
            tells("a book alone", Masts::withBook, x -> x.leastWind(reader), NONE);
            tells("lowered", Snapshot.behind(() -> weighing(1), y -> y.lower()), x -> x.leastWind(reader), NONE);
            due("a side that is none", Masts.withBook().leastWind(2 + side), BAD_VALUE);
        }
    }

    // ---- promise 23: ifTurned

    /** As if the wind were turned. */
    @Says("Predicts how many words a reader would know if the wind came from the other side.")
    static void promise23IfTheWindTurned() {
        for (int from = 0; from <= 1; from++) {
            for (int strength = 0; strength <= 9; strength++) {
                for (int side = 0; side <= 1; side++) {
                    MastFlags x = weighing(1, 5, 9);
                    x.enter(18, 7);
                    x.paint(8, 1, 6, 3);
                    x.bend(4, 8);
                    x.setWind(strength, from);
                    int told = x.ifTurned(side);
                    due("the wind stays", x.total(1), from);
                    x.setWind(strength, 1 - from);
                    due("strength " + strength + " from " + from + ", side " + side, told, x.known(side));
                }
            }
        }
    }

    @Says("Returns the number")
    static void promise23ReturnsTheNumber() {
        tells("no hoists", MastFlags::new, x -> x.ifTurned(0), 0);
        tells("no hoists, behind", MastFlags::new, x -> x.ifTurned(1), 0);
        tells("all five", () -> weighing(0, 0, 0, 0, 0), x -> x.ifTurned(0), 5);
        tells("all droop", Snapshot.behind(() -> weighing(1, 1), y -> y.setWind(0, 0)), x -> x.ifTurned(0), 0);
        tells("brimful", Masts::brimful, x -> x.ifTurned(1), 2);
    }

    @Says("`side`: 0 or 1")
    static void promise23SidesZeroAndOne() {
        takenWithin(0, 1, MastFlags::ifTurned);
    }

    @Says("BAD_VALUE if side is out of range")
    static void promise23BadValue() {
        refusedOutside(0, 1, MastFlags::ifTurned, BAD_VALUE);
    }

    // ---- promise 24: mendingExchange

    /** As if each exchange were made, looked at, and undone. */
    private static int mendedBy(MastFlags x) {
        if (x.isSame() == 1) {
            return 0;
        }
        for (int halyard = 0; halyard < 5; halyard++) {
            for (int other = halyard + 1; other < 5; other++) {
                x.exchange(halyard, other);
                int isSame = x.isSame();
                x.undo();
                if (isSame == 1) {
                    return 10 * halyard + other;
                }
            }
        }
        return NONE;
    }

    @Says({"Finds the exchange of two halyards behind which isSame() would be 1.",
        "Returns 10 * the lower halyard + the other one"})
    static void promise24AsIfEachExchangeWereMade() {
        for (int manners = 0; manners < Masts.MANNERS; manners++) {
            MastFlags x = Masts.ofManners(manners);
            int told = x.mendingExchange();
            due("manners " + manners, told, mendedBy(x));
        }
    }

    private static Supplier<MastFlags> onHalyards(int... flags) {
        return () -> {
            MastFlags x = Masts.withBook();
            for (int halyard = 0; halyard < 5; halyard++) {
                if (flags[halyard] >= 0) {
                    x.bend(halyard, flags[halyard]);
                }
            }
            return x;
        };
    }

    @Says("of several the least such number")
    static void promise24LeastOfSeveral() {
        tells("0 1 1 . .: 1 and not 2", onHalyards(0, 1, 1, -1, -1), x -> x.mendingExchange(), 1);
        tells("0 0 1 1 .: 2 and not 13", onHalyards(0, 0, 1, 1, -1), x -> x.mendingExchange(), 2);
        tells("1 . . 0 0: 3 and not 4", onHalyards(1, -1, -1, 0, 0), x -> x.mendingExchange(), 3);
        tells("0 . . 0 1: 14 and not 34", onHalyards(0, -1, -1, 0, 1), x -> x.mendingExchange(), 14);
        tells(". 0 0 1 .: 14 and not 23", onHalyards(-1, 0, 0, 1, -1), x -> x.mendingExchange(), 14);
        tells(". . 0 0 1: 34", onHalyards(-1, -1, 0, 0, 1), x -> x.mendingExchange(), 34);
    }

    @Says("0 if isSame() is 1 now")
    static void promise24Zero() {
        tells("one word", onHalyards(-1, -1, 2, -1, -1), x -> x.mendingExchange(), 0);
        tells("two words", onHalyards(1, -1, -1, -1, 1), x -> x.mendingExchange(), 0);
        tells("five words", onHalyards(0, 1, 2, 1, 0), x -> x.mendingExchange(), 0);
    }

    @Says("NONE if there is none")
    static void promise24None() {
        tells("no hoists", MastFlags::new, x -> x.mendingExchange(), NONE);
        tells("no hoists, a book", Masts::withBook, x -> x.mendingExchange(), NONE);
        tells("two words", onHalyards(0, -1, -1, -1, 1), x -> x.mendingExchange(), NONE);
        tells("a word that is not known", onHalyards(9, -1, -1, -1, -1), x -> x.mendingExchange(), NONE);
        tells("two exchanges would do", onHalyards(0, 0, 1, 1, 2), x -> x.mendingExchange(), NONE);
    }

    // ---- promise 25: bestEntry

    private static Supplier<MastFlags> book(int word, int... numbers) {
        return () -> {
            MastFlags x = new MastFlags();
            for (int number : numbers) {
                x.enter(number, word);
            }
            return x;
        };
    }

    @Says("Finds the shortest hoist by which a word could be told so that the reader from the front knows it "
            + "as things are now:")
    static void promise25AsThingsAreNow() {
        MastFlags x = book(7, 12345, 1234, 123, 16).get();
        due("one flag", x.bestEntry(7), 3);
        x.setWind(2, 0);
        due("6 droops", x.bestEntry(7), 2);
        x.setWind(0, 0);
        due("2 droops", x.bestEntry(7), NONE);
        x.setWind(5, 1);
        due("none is mirrored", x.bestEntry(7), NONE);
        x.paint(2, 6, 6, 0);
        x.paint(3, 5, 5, 0);
        due("of one colour", x.bestEntry(7), 2);
        x.sail(1);
        due("wherever the other ship is", x.bestEntry(7), 2);
        x.bend(0, 2);
        x.bend(1, 3);
        due("whatever pieces are left", x.bestEntry(7), 2);
    }

    @Says("the first of the shortest entries with this word")
    static void promise25FirstOfTheShortest() {
        tells("of one length", book(7, 123, 145, 112), x -> x.bestEntry(7), 0);
        tells("the shorter ones are behind", book(7, 12345, 1234, 123, 12, 13), x -> x.bestEntry(7), 3);
        tells("the shorter ones are ahead", book(7, 15, 16, 123, 1234), x -> x.bestEntry(7), 0);
        tells("four flags alone", book(7, 12345), x -> x.bestEntry(7), 0);
        tells("the last of twelve", book(7, 100, 100, 100, 100, 100, 100, 100, 100, 100, 100, 100, 10),
                x -> x.bestEntry(7), 11);
        MastFlags x = book(7, 123).get();
        x.enter(15, 8);
        due("another word does not count", x.bestEntry(7), 0);
        due("for its own word it does", x.bestEntry(8), 1);
    }

    /** Of each two lengths, with and without flags 0, which are digits like the others. */
    @Says("the first of the shortest entries with this word")
    static void promise25LengthsOfTwoEntries() {
        int[][] numbers = {{10, 100, 1000, 10000}, {15, 155, 1555, 15555}, {10, 105, 1055, 10555}, {15, 150, 1500, 15000}};
        for (int[] first : numbers) {
            for (int[] second : numbers) {
                for (int of = 0; of < 4; of++) {
                    for (int with = 0; with < 4; with++) {
                        due(first[of] + " and " + second[with], book(7, first[of], second[with]).get().bestEntry(7),
                                with < of ? 1 : 0);
                    }
                }
            }
        }
    }

    @Says("of which the reader knows all flags as themselves")
    static void promise25AFlagThatDroops() {
        for (int flag : new int[] {0, 9}) {
            for (int number : new int[] {10, 105, 150, 1055, 1505, 1550, 10555, 15055, 15505, 15550}) {
                int asked = Integer.parseInt("1" + String.valueOf(number).substring(1).replace('0', (char) ('0' + flag)));
                MastFlags x = book(7, asked).get();
                x.paint(flag, 7, 7, 9);
                x.paint(5, 5, 5, 0);
                due(asked + " droops", x.bestEntry(7), NONE);
                x.setWind(9, 1);
                due(asked + " flies", x.bestEntry(7), 0);
                x.paint(flag, 7, 2, 0);
                due(asked + " is mirrored", x.bestEntry(7), NONE);
            }
        }
    }

    @Says("of which the reader knows all flags as themselves")
    static void promise25AllFlagsAsThemselves() {
        tells("8 is taken for 0", book(7, 18), x -> x.bestEntry(7), NONE);
        tells("9 is taken for 1", book(7, 19, 1119, 1911), x -> x.bestEntry(7), NONE);
        for (int number : new int[] {18, 181, 118, 1811, 1181, 1118, 18111, 11811, 11181, 11118}) {
            tells("8 anywhere in " + number, book(7, number), x -> x.bestEntry(7), NONE);
            tells("a longer one behind " + number, book(7, number, 11111), x -> x.bestEntry(7), 1);
        }
    }

    @Says("(an earlier entry with the same flags does not matter)")
    static void promise25AnEarlierEntryDoesNotMatter() {
        MastFlags x = new MastFlags();
        x.enter(15, 8);
        x.enter(15, 7);
        due("told for 8 ahead", x.bestEntry(7), 1);
        due("told for 7 behind", x.bestEntry(8), 0);
    }

    @Says({"`word`: 0 to 99", "Returns the entry"})
    static void promise25WordsZeroToNinetyNine() {
        takenWithin(0, 99, MastFlags::bestEntry);
        for (int word = 0; word <= 99; word++) {
            int asked = word;
            due("the word " + word, book(word, 15).get().bestEntry(asked), 0);
        }
        tells("brimful", Masts::brimful, x -> x.bestEntry(54), 3);
    }

    @Says("BAD_VALUE if word is out of range")
    static void promise25BadValue() {
        refusedOutside(0, 99, MastFlags::bestEntry, BAD_VALUE);
    }

    @Says("NONE if there is none")
    static void promise25None() {
        tells("an empty book", MastFlags::new, x -> x.bestEntry(0), NONE);
        tells("another word", book(7, 15), x -> x.bestEntry(8), NONE);
        tells("struck", Snapshot.behind(book(7, 15), y -> y.strike(0)), x -> x.bestEntry(7), NONE);
        tells("it droops", Snapshot.behind(book(7, 15), y -> y.setWind(1, 0)), x -> x.bestEntry(7), NONE);
    }
}
