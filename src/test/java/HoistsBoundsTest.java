import java.util.Arrays;
import java.util.function.Supplier;

/** The sentences of promises 6 to 10: bend, unbend, exchange, lower, sign. */
public final class HoistsBoundsTest extends Bounds {
    private static final int[] KINDS = {0, 1, 2, 3, 4, 5, 6, 7, 8, 9, PENNANT + 1, PENNANT + 2, PENNANT + 3};
    private static final int[] NO_SIGNS = {-1, -2, Integer.MIN_VALUE, Integer.MIN_VALUE + 1,
        Integer.MIN_VALUE + PENNANT, PENNANT, PENNANT + 4, PENNANT + 5, 256, 65536, Integer.MAX_VALUE};

    public static void main(String[] args) {
        run(HoistsBoundsTest.class);
    }

    // ---- promise 6: bend

    @Says("Adds a sign at the lower end of a hoist.")
    static void promise06AddsAtTheLowerEnd() {
        MastFlags x = hoisted(2, 9, 0, PENNANT + 1);
        x.bend(2, 7);
        int[] signs = {9, 0, PENNANT + 1, 7};
        for (int place = 1; place <= 4; place++) {
            due("place " + place, x.sign(2, place, 0), signs[place - 1]);
        }
        due("no other hoist", x.total(4), 1);
    }

    @Says("Undoable.")
    static void promise06Undoable() {
        undoable("bend", MastFlags::new, x -> x.bend(0, 0));
        undoable("bend a pennant", Masts::signalling, x -> x.bend(2, PENNANT + 1));
        undoable("bend, close up", Masts::closeUp, x -> x.bend(4, 9));
        undoable("bend, brimful", Masts::brimful, x -> x.bend(1, 2));
    }

    @Says("`halyard`: 0 to 4")
    static void promise06HalyardsZeroToFour() {
        takenWithin(0, 4, (x, halyard) -> x.bend(halyard, 0));
        for (int halyard = 0; halyard < 5; halyard++) {
            due("on this halyard", hoisted(halyard, 8).sign(halyard, 1, 0), 8);
        }
    }

    @Says("`sign`: 0 to 9 for a flag, PENNANT + 1 to PENNANT + 3 for a pennant")
    static void promise06SignsOfFlagsAndPennants() {
        for (int kind : KINDS) {
            MastFlags x = hoisted(0, 4, 5, 6);
            due("bend(0, " + kind + ")", x.bend(0, kind), 4);
            due("sign " + kind, x.sign(0, 4, 0), kind);
        }
        due("9 is a flag", hoisted(0, 9).sign(0, 1, 1), 9);
        due("10 is no sign", hoisted(0, 4, 5, 6).bend(0, PENNANT), NO_SUCH);
        due("14 is no sign", hoisted(0, 4, 5, 6).bend(0, PENNANT + 4), NO_SUCH);
    }

    @Says("Returns the number of signs of the hoist then")
    static void promise06ReturnsTheNumberOfSigns() {
        MastFlags x = hoisted(1, 5, 6, 7);
        for (int signs = 1; signs <= 4; signs++) {
            due("so many", x.bend(3, signs - 1), signs);
        }
        due("of this hoist", x.bend(1, 8), 4);
    }

    @Says("NO_SUCH if there is no such halyard or sign")
    static void promise06NoSuchHalyard() {
        refusedOutside(0, 4, (x, halyard) -> x.bend(halyard, 3), NO_SUCH);
    }

    @Says("NO_SUCH if there is no such halyard or sign")
    static void promise06NoSuchSign() {
        for (int sign : NO_SIGNS) {
            refusedEverywhere("sign " + sign, x -> x.bend(1, sign), NO_SUCH);
        }
    }

    @Says("NOT_POSSIBLE if a pennant would not repeat a sign above it")
    static void promise06NotPossible() {
        for (int halyard = 0; halyard < 5; halyard++) {
            for (int pennant = 1; pennant <= 3; pennant++) {
                for (int above = 0; above <= 3; above++) {
                    pennantBelow(halyard, pennant, above);
                }
            }
        }
        refused("of the halyard beside it", () -> hoisted(1, 4, 5, 6), x -> x.bend(0, PENNANT + 1), NOT_POSSIBLE);
        refused("at the dip", Masts::full, x -> x.bend(2, PENNANT + 2), NOT_POSSIBLE);
        refused("brimful", Masts::brimful, x -> x.bend(3, PENNANT + 3), NOT_POSSIBLE);
        refused("behind unbend", Snapshot.behind(() -> hoisted(0, 4, 5), y -> y.unbend(0)),
                x -> x.bend(0, PENNANT + 2), NOT_POSSIBLE);
    }

    private static void pennantBelow(int halyard, int pennant, int above) {
        Supplier<MastFlags> make = () -> hoisted(halyard, Arrays.copyOf(new int[] {4, 5, 6}, above));
        if (above < pennant) {
            refused("pennant " + pennant + " below " + above, make, x -> x.bend(halyard, PENNANT + pennant), NOT_POSSIBLE);
        } else {
            due("pennant " + pennant + " below " + above, make.get().bend(halyard, PENNANT + pennant), above + 1);
        }
    }

    @Says("LIMIT if the hoist has 4 signs")
    static void promise06LimitOfFourSigns() {
        for (int halyard = 0; halyard < 5; halyard++) {
            int full = halyard;
            for (int kind : KINDS) {
                refused("a fifth, " + kind, () -> hoisted(full, 4, 5, 6, 7), x -> x.bend(full, kind), LIMIT);
            }
            due("the fourth", hoisted(full, 4, 5, 6).bend(full, 7), 4);
        }
        refused("of pennants", () -> hoisted(3, 4, PENNANT + 1, PENNANT + 2, PENNANT + 3), x -> x.bend(3, 9), LIMIT);
        refused("brimful", Masts::brimful, x -> x.bend(0, 9), LIMIT);
    }

    @Says("LIMIT if the hoist has 4 signs")
    static void promise06RoomAgainBehindUnbend() {
        MastFlags x = hoisted(0, 4, 5, 6, 7);
        due("full", x.bend(0, 8), LIMIT);
        due("on another", x.bend(1, 8), 1);
        x.unbend(0);
        due("room again", x.bend(0, 9), 4);
        x.lower();
        due("empty again", x.bend(0, 4), 1);
    }

    /** So many pieces of a sign, each on a halyard of its own; below three flags if it is a pennant. */
    private static MastFlags withPieces(int stock, int sign, int pieces) {
        MastFlags x = new MastFlags();
        x.setStock(3);
        for (int halyard = 0; halyard < 4; halyard++) {
            if (sign > PENNANT) {
                bendAll(x, halyard, halyard % 2, 2 + halyard % 2, 4 + halyard % 2);
            }
        }
        for (int halyard = 3; halyard > 3 - pieces; halyard--) {
            taken("bend", x.bend(halyard, sign));
        }
        taken("setStock", x.setStock(Math.max(stock, sign > PENNANT ? 2 : 1)));
        return x;
    }

    @Says("or if no piece is left")
    static void promise06LimitOfPieces() {
        for (int kind : KINDS) {
            for (int stock = kind > PENNANT ? 2 : 1; stock <= 3; stock++) {
                int pieces = stock;
                refused("stock " + stock + " of " + kind, () -> withPieces(pieces, kind, pieces),
                        x -> x.bend(0, kind), LIMIT);
                taken("the last piece of " + kind, withPieces(stock, kind, stock - 1).bend(0, kind));
            }
        }
        for (int pennant = 1; pennant <= 3; pennant++) {
            int sign = PENNANT + pennant;
            refused("stock 1 of pennant " + pennant, () -> onePennant(sign), x -> x.bend(1, sign), LIMIT);
        }
        refused("on the same hoist", () -> hoisted(0, 4, 4, 4), x -> x.bend(0, 4), LIMIT);
    }

    private static MastFlags onePennant(int sign) {
        MastFlags x = new MastFlags();
        bendAll(x, 0, 0, 1, 2, sign);
        bendAll(x, 1, 3, 4, 5);
        return x;
    }

    @Says("or if no piece is left")
    static void promise06PiecesOfOneKindAlone() {
        MastFlags x = new MastFlags();
        for (int flag = 0; flag < 10; flag++) {
            due("one of each", x.bend(flag / 4, flag), flag % 4 + 1);
        }
        due("pennant 1 is a kind of its own", x.bend(2, PENNANT + 1), 3);
        due("what it repeats is not used up by it", x.unbend(2), PENNANT + 1);
        due("unbent", x.unbend(2), 9);
        due("back again", x.bend(3, 9), 1);
        due("no second one", x.bend(4, 9), LIMIT);
    }

    @Says({"NO_SUCH if there is no such halyard or sign", "NOT_POSSIBLE if a pennant would not repeat a sign above it",
        "LIMIT if the hoist has 4 signs"})
    static void promise06OrderOfErrors() {
        refusedEverywhere("halyard ahead of pennant", x -> x.bend(5, PENNANT + 3), NO_SUCH);
        refusedEverywhere("halyard and sign", x -> x.bend(-1, 14), NO_SUCH);
        refused("sign ahead of 4 signs", () -> hoisted(0, 4, 5, 6, 7), x -> x.bend(0, 10), NO_SUCH);
        refused("pennant ahead of pieces", () -> onePennant(PENNANT + 3), x -> x.bend(2, PENNANT + 3), NOT_POSSIBLE);
        refused("4 signs and no piece", () -> hoisted(0, 4, 4, 4, 7), x -> x.bend(0, 4), LIMIT);
    }

    // ---- promise 7: unbend

    @Says("Takes the lowest sign of a hoist off.")
    static void promise07TakesTheLowestOff() {
        MastFlags x = hoisted(4, 9, PENNANT + 1, 0, PENNANT + 3);
        bendAll(x, 3, 5);
        for (int left = 3; left >= 0; left--) {
            x.unbend(4);
            due("the lowest is off", x.sign(4, left + 1, 0), NO_SUCH);
            due("the one above stays", x.sign(4, left, 0), left == 0 ? NO_SUCH : new int[] {9, 11, 0}[left - 1]);
            due("signs", x.total(3), left + 1);
        }
        due("the other hoist stays", x.sign(3, 1, 0), 5);
    }

    @Says("Undoable.")
    static void promise07Undoable() {
        undoable("unbend the last", () -> hoisted(0, 4), x -> x.unbend(0));
        undoable("unbend, close up", Masts::closeUp, x -> x.unbend(3));
        undoable("unbend a pennant", Masts::brimful, x -> x.unbend(0));
    }

    /** Other signs take the places of the lowest ones; all calls are undone. */
    @Says("Undoable.")
    static void promise07UndoneBehindOtherSigns() {
        for (int halyard = 0; halyard < 5; halyard++) {
            int packed = halyard;
            Supplier<MastFlags> make = Snapshot.behind(MastFlags::new, x -> packed(x));
            undoable("unbend the fourth", make, x -> x.unbend(packed));
            MastFlags x = make.get();
            x.unbend(halyard);
            x.unbend(halyard);
            due("another sign", x.bend(halyard, 9), 3);
            due("another fourth sign", x.bend(halyard, 8), 4);
            for (int calls = 0; calls < 4; calls++) {
                x.undo();
            }
            same("undone behind others", Snapshot.ofState(x), Snapshot.ofState(make.get()));
        }
    }

    /** All 20 signs; the flags 8 and 9 have pieces left. */
    private static int packed(MastFlags x) {
        x.setStock(3);
        for (int halyard = 0; halyard < 5; halyard++) {
            int first = 2 * halyard;
            bendAll(x, halyard, first % 8, (first + 1) % 8, (first + 2) % 8, (first + 3) % 8);
        }
        return x.total(3);
    }

    @Says("`halyard`: 0 to 4")
    static void promise07HalyardsZeroToFour() {
        takenWithin(HoistsBoundsTest::oneEach, 0, 4, MastFlags::unbend);
    }

    /** The flag k + 3 on the halyard k. */
    private static MastFlags oneEach() {
        MastFlags x = new MastFlags();
        for (int halyard = 0; halyard < 5; halyard++) {
            x.bend(halyard, halyard + 3);
        }
        return x;
    }

    @Says("Returns the sign")
    static void promise07ReturnsTheSign() {
        for (int kind : KINDS) {
            due("sign " + kind, hoisted(1, 0, 1, 2, kind).unbend(1), kind);
        }
        for (int halyard = 0; halyard < 5; halyard++) {
            due("of this halyard", oneEach().unbend(halyard), halyard + 3);
        }
    }

    @Says("NO_SUCH if there is no such halyard")
    static void promise07NoSuchHalyard() {
        refusedOutside(0, 4, MastFlags::unbend, NO_SUCH);
    }

    @Says("NOT_POSSIBLE if the hoist is empty")
    static void promise07NotPossible() {
        for (int halyard = 0; halyard < 5; halyard++) {
            int empty = halyard;
            refused("never bent", MastFlags::new, x -> x.unbend(empty), NOT_POSSIBLE);
            refused("unbent", Snapshot.behind(HoistsBoundsTest::oneEach, y -> y.unbend(empty)),
                    x -> x.unbend(empty), NOT_POSSIBLE);
            refused("lowered", Snapshot.behind(HoistsBoundsTest::oneEach, y -> y.lower()),
                    x -> x.unbend(empty), NOT_POSSIBLE);
        }
        refused("at the dip", Masts::full, x -> x.unbend(1), NOT_POSSIBLE);
        refused("close up", Masts::brimful, x -> x.unbend(2), NOT_POSSIBLE);
    }

    // ---- promise 8: exchange

    @Says("Exchanges the hoists of two halyards.")
    static void promise08ExchangesThem() {
        for (int halyard = 0; halyard < 5; halyard++) {
            for (int other = 0; other < 5; other++) {
                if (other != halyard) {
                    exchanged(halyard, other);
                }
            }
        }
        MastFlags x = hoisted(0, 9, 8, PENNANT + 2, 7);
        bendAll(x, 4, 3);
        x.exchange(0, 4);
        int[] signs = {9, 8, PENNANT + 2, 7};
        for (int place = 1; place <= 4; place++) {
            due("the long one", x.sign(4, place, 0), signs[place - 1]);
            due("the short one", x.sign(0, place, 0), place == 1 ? 3 : NO_SUCH);
        }
        due("what the pennant repeats", x.sign(4, 3, 1), 8);
    }

    private static void exchanged(int halyard, int other) {
        MastFlags x = oneEach();
        x.exchange(halyard, other);
        for (int at = 0; at < 5; at++) {
            int from = at == halyard ? other : at == other ? halyard : at;
            due("exchange(" + halyard + ", " + other + ") at " + at, x.sign(at, 1, 0), from + 3);
        }
    }

    @Says("Exchanges the hoists of two halyards.")
    static void promise08WithAnEmptyHoist() {
        MastFlags x = hoisted(1, 9, 8);
        due("from the full one", x.exchange(1, 3), 2);
        due("it is empty", x.sign(1, 1, 0), NO_SUCH);
        due("it moved", x.sign(3, 2, 0), 8);
        due("from the empty one", x.exchange(1, 3), 2);
        due("it moved back", x.sign(1, 2, 0), 8);
        due("two empty ones", x.exchange(0, 4), 0);
    }

    @Says("Undoable.")
    static void promise08Undoable() {
        undoable("of empty ones", MastFlags::new, x -> x.exchange(3, 0));
        undoable("of unlike ones", Masts::closeUp, x -> x.exchange(0, 3));
        undoable("brimful", Masts::brimful, x -> x.exchange(4, 0));
    }

    @Says("`halyard`: 0 to 4")
    static void promise08HalyardsZeroToFour() {
        takenWithin(0, 3, (x, halyard) -> halyard > 3 ? NO_SUCH : x.exchange(halyard, 4));
        takenWithin(1, 4, (x, halyard) -> halyard < 1 ? NO_SUCH : x.exchange(halyard, 0));
    }

    @Says("`other`: 0 to 4")
    static void promise08OthersZeroToFour() {
        takenWithin(0, 3, (x, other) -> other > 3 ? NO_SUCH : x.exchange(4, other));
        takenWithin(1, 4, (x, other) -> other < 1 ? NO_SUCH : x.exchange(0, other));
    }

    @Says("Returns the number of signs of both together")
    static void promise08ReturnsTheSignsOfBoth() {
        MastFlags x = hoisted(0, 1, 2, 3, 4);
        bendAll(x, 1, 5, 6, 7, 8);
        bendAll(x, 2, 9);
        due("most", x.exchange(0, 1), 8);
        due("4 and 1", x.exchange(2, 1), 5);
        due("4 and 0", x.exchange(4, 2), 4);
        due("0 and 1", x.exchange(2, 1), 1);
        due("none", x.exchange(3, 1), 0);
    }

    @Says("NO_SUCH if there is no such halyard")
    static void promise08NoSuchHalyard() {
        refusedOutside(0, 4, (x, halyard) -> x.exchange(halyard, 2), NO_SUCH);
        refusedOutside(0, 4, (x, other) -> x.exchange(2, other), NO_SUCH);
    }

    @Says("BAD_VALUE if both are the same")
    static void promise08BadValue() {
        for (int halyard = 0; halyard < 5; halyard++) {
            int same = halyard;
            refusedEverywhere("exchange(" + same + ", " + same + ")", x -> x.exchange(same, same), BAD_VALUE);
        }
    }

    @Says({"NO_SUCH if there is no such halyard", "BAD_VALUE if both are the same"})
    static void promise08NoSuchComesFirst() {
        refusedOutside(0, 4, (x, same) -> x.exchange(same, same), NO_SUCH);
    }

    // ---- promise 9: lower

    @Says("Lowers all hoists.")
    static void promise09LowersAll() {
        MastFlags x = oneEach();
        x.lower();
        due("signs", x.total(3), 0);
        for (int halyard = 0; halyard < 5; halyard++) {
            due("empty", x.sign(halyard, 1, 0), NO_SUCH);
            due("its piece is back", x.flag(halyard + 3, 3), 1);
        }
    }

    @Says("Undoable.")
    static void promise09Undoable() {
        undoable("no hoists", MastFlags::new, x -> x.lower());
        undoable("down", Masts::signalling, x -> x.lower());
        undoable("at the dip", Masts::atTheDip, x -> x.lower());
        undoable("close up", Masts::closeUp, x -> x.lower());
        undoable("brimful, the oldest message is lost", Masts::brimful, x -> x.lower());
    }

    @Says("Returns the number of words that are logged")
    static void promise09ReturnsTheNumberOfWords() {
        for (int words = 1; words <= 5; words++) {
            MastFlags x = Masts.withBook();
            for (int halyard = 5 - words; halyard < 5; halyard++) {
                x.bend(halyard, halyard % 3);
            }
            x.answer();
            x.answer();
            due("so many", x.lower(), words);
            due("as the log tells", x.logged(0, 0), words);
        }
        due("brimful", Masts.brimful().lower(), 2);
    }

    @Says("0 if none are")
    static void promise09ReturnsZero() {
        due("no hoists", new MastFlags().lower(), 0);
        due("down", Masts.signalling().lower(), 0);
        due("at the dip", Masts.atTheDip().lower(), 0);
        MastFlags brought = Masts.closeUp();
        brought.sail(0);
        due("close up no more", brought.lower(), 0);
        due("nothing is logged", brought.total(9), 0);
        MastFlags twice = Masts.closeUp();
        twice.lower();
        due("a second time", twice.lower(), 0);
        due("logged once", twice.total(9), 1);
    }

    // ---- promise 10: sign

    @Says({"Returns a sign.", "`part`:", "0 for the sign"})
    static void promise10PartZero() {
        for (int kind : KINDS) {
            due("sign " + kind, hoisted(4, 0, 1, 2, kind).sign(4, 4, 0), kind);
        }
    }

    @Says("1 for the flag for which it stands")
    static void promise10PartOne() {
        due("the first flag", hoisted(0, 0).sign(0, 1, 1), 0);
        due("the last flag", hoisted(0, 9).sign(0, 1, 1), 9);
        MastFlags x = hoisted(0, 8, 7, 6, PENNANT + 2);
        due("a pennant", x.sign(0, 4, 1), 7);
        MastFlags chain = hoisted(0, 9, PENNANT + 1, PENNANT + 2, PENNANT + 3);
        for (int place = 1; place <= 4; place++) {
            due("three pennants, place " + place, chain.sign(0, place, 1), 9);
        }
    }

    @Says("2 for whether this flag droops (1 or 0)")
    static void promise10PartTwo() {
        for (int weight = 0; weight <= 9; weight++) {
            for (int strength = 0; strength <= 9; strength++) {
                MastFlags x = hoisted(0, 5, PENNANT + 1);
                x.paint(5, 5, 5, weight);
                x.setWind(strength, 1);
                int droops = weight > strength ? 1 : 0;
                due("weight " + weight + ", strength " + strength, x.sign(0, 1, 2), droops);
                due("its pennant", x.sign(0, 2, 2), droops);
            }
        }
    }

    @Says("`halyard`: 0 to 4")
    static void promise10HalyardsZeroToFour() {
        takenWithin(HoistsBoundsTest::oneEach, 0, 4, (x, halyard) -> x.sign(halyard, 1, 0));
    }

    @Says({"`place`: 1 for the uppermost one", "Returns the number"})
    static void promise10PlacesFromTheTop() {
        for (int place = 1; place <= 4; place++) {
            int asked = place;
            tells("place " + place, () -> hoisted(2, 9, 8, 7, 6), x -> x.sign(2, asked, 0), 10 - place);
        }
    }

    @Says("NO_SUCH if there is no such halyard or place")
    static void promise10NoSuchHalyard() {
        refusedOutside(0, 4, (x, halyard) -> x.sign(halyard, 1, 0), NO_SUCH);
    }

    @Says("NO_SUCH if there is no such halyard or place")
    static void promise10NoSuchPlace() {
        refusedOutside(1, 4, (x, place) -> x.sign(0, place, 0), NO_SUCH);
        for (int size = 0; size <= 4; size++) {
            int[] signs = Arrays.copyOf(new int[] {4, 5, 6, 7}, size);
            for (int place = size + 1; place <= 5; place++) {
                int asked = place;
                refused("place " + place + " of " + size, () -> hoisted(4, signs), x -> x.sign(4, asked, 0), NO_SUCH);
            }
        }
        refused("unbent", Snapshot.behind(() -> hoisted(1, 4, 5), y -> y.unbend(1)),
                x -> x.sign(1, 2, 0), NO_SUCH);
    }

    @Says("BAD_VALUE if part is out of range")
    static void promise10BadValue() {
        int[] outside = {-1, -2, Integer.MIN_VALUE, 3, 4, 256, 65536, Integer.MAX_VALUE};
        for (int part : outside) {
            refused("part " + part, Masts::full, x -> x.sign(0, 4, part), BAD_VALUE);
            refused("part " + part, Masts::brimful, x -> x.sign(3, 1, part), BAD_VALUE);
        }
    }

    @Says({"NO_SUCH if there is no such halyard or place", "BAD_VALUE if part is out of range"})
    static void promise10NoSuchComesFirst() {
        refusedEverywhere("halyard", x -> x.sign(5, 1, 3), NO_SUCH);
        refusedEverywhere("place 0", x -> x.sign(0, 0, -1), NO_SUCH);
        refusedEverywhere("empty hoist", x -> x.sign(1, 1, 3), NO_SUCH);
    }
}
