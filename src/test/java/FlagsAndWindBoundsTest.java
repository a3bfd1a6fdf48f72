/** The sentences of promises 1 to 5: a new object, paint, setStock, setWind, flag. */
public final class FlagsAndWindBoundsTest extends Bounds {
    public static void main(String[] args) {
        run(FlagsAndWindBoundsTest.class);
    }

    // ---- promise 1: a new object

    @Says("Creates a mast with empty hoists")
    static void promise01EmptyHoists() {
        for (int halyard = 0; halyard < 5; halyard++) {
            MastFlags x = new MastFlags();
            due("the first sign", x.sign(halyard, 1, 0), NO_SUCH);
            due("taken off", x.unbend(halyard), NOT_POSSIBLE);
            due("a sign to repeat", x.bend(halyard, PENNANT + 1), NOT_POSSIBLE);
            due("bend", x.bend(halyard, 0), 1);
        }
        MastFlags x = new MastFlags();
        due("signs", x.total(3), 0);
        due("hoists", x.total(4), 0);
        due("answer", x.answer(), NOT_POSSIBLE);
        due("isSame", x.isSame(), 0);
        for (int side = 0; side <= 1; side++) {
            due("word", x.word(side, 0), NO_SUCH);
            due("known", x.known(side), 0);
            due("leastWind", x.leastWind(side), NONE);
        }
        due("saved signs", x.save(), 0);
        due("lower", x.lower(), 0);
    }

    @Says("a stock of 1")
    static void promise01StockOfOne() {
        MastFlags x = new MastFlags();
        due("total(2)", x.total(2), 1);
        for (int flag = 0; flag < 10; flag++) {
            due("pieces", x.flag(flag, 3), 1);
        }
        due("one piece", x.bend(0, 9), 1);
        due("no second piece", x.bend(1, 9), LIMIT);
        due("previous stock", x.setStock(2), 1);
    }

    @Says("an empty book")
    static void promise01EmptyBook() {
        MastFlags x = new MastFlags();
        due("entries", x.total(5), 0);
        due("its flags", x.entry(0, 0), NO_SUCH);
        due("its word", x.entry(0, 1), NO_SUCH);
        due("strike", x.strike(0), NO_SUCH);
        for (int word = 0; word < 100; word++) {
            due("bestEntry", x.bestEntry(word), NONE);
        }
        due("enter", x.enter(10, 0), 1);
    }

    // ---- promise 2: paint

    @Says("Changes a flag.")
    static void promise02ChangesThisFlagAlone() {
        for (int painted = 0; painted < 10; painted++) {
            MastFlags x = new MastFlags();
            x.paint(painted, 7, 6, 9);
            for (int flag = 0; flag < 10; flag++) {
                due("hoist of " + flag, x.flag(flag, 0), flag == painted ? 7 : flag % 8);
                due("fly of " + flag, x.flag(flag, 1), flag == painted ? 6 : (3 * flag + 1) % 8);
                due("weight of " + flag, x.flag(flag, 2), flag == painted ? 9 : flag / 2);
            }
        }
    }

    @Says("Undoable.")
    static void promise02Undoable() {
        undoable("paint", MastFlags::new, x -> x.paint(9, 7, 0, 9));
        undoable("paint, full", Masts::full, x -> x.paint(0, 0, 7, 9));
        undoable("paint as it is", Masts::closeUp, x -> x.paint(9, 1, 4, 4));
        undoable("paint, brimful", Masts::brimful, x -> x.paint(1, 2, 3, 8));
        for (int flag = 0; flag < 10; flag++) {
            int painted = flag;
            undoable("paint of " + flag, Masts::signalling, x -> x.paint(painted, 7, 0, 9));
        }
    }

    @Says("`flag`: 0 to 9")
    static void promise02FlagsZeroToNine() {
        takenWithin(0, 9, (x, flag) -> x.paint(flag, 3, 3, 3));
    }

    @Says("`hoist`: colour at the hoist, 0 to 7")
    static void promise02HoistZeroToSeven() {
        takenWithin(0, 7, (x, hoist) -> x.paint(5, hoist, 3, 3));
        for (int hoist = 0; hoist <= 7; hoist++) {
            MastFlags x = new MastFlags();
            x.paint(0, hoist, 3, 3);
            due("colour", x.flag(0, 0), hoist);
        }
    }

    @Says("`fly`: colour at the fly, 0 to 7")
    static void promise02FlyZeroToSeven() {
        takenWithin(0, 7, (x, fly) -> x.paint(5, 3, fly, 3));
        for (int fly = 0; fly <= 7; fly++) {
            MastFlags x = new MastFlags();
            x.paint(9, 3, fly, 3);
            due("colour", x.flag(9, 1), fly);
        }
    }

    @Says("`weight`: 0 to 9")
    static void promise02WeightZeroToNine() {
        takenWithin(0, 9, (x, weight) -> x.paint(5, 3, 3, weight));
        for (int weight = 0; weight <= 9; weight++) {
            MastFlags x = new MastFlags();
            x.paint(4, 3, 3, weight);
            due("weight", x.flag(4, 2), weight);
        }
    }

    @Says("Returns the number of flags, this one included,")
    static void promise02CountsThisOne() {
        MastFlags x = new MastFlags();
        for (int flag = 0; flag < 10; flag++) {
            due("so many are alike", x.paint(flag, 7, 7, 0), flag + 1);
        }
        due("all, painted again", x.paint(0, 7, 7, 0), 10);
        due("alone", x.paint(9, 7, 0, 0), 1);
        due("all but one", x.paint(8, 7, 7, 0), 9);
    }

    @Says("that look like it: with the same colours at the hoist and at the fly")
    static void promise02LooksLikeIt() {
        due("8 is like 0 at the beginning", new MastFlags().paint(8, 0, 1, 4), 2);
        due("9 is like 1 at the beginning", new MastFlags().paint(1, 1, 4, 0), 2);
        due("the weight does not matter", new MastFlags().paint(0, 0, 1, 9), 2);
        due("the same hoist alone", new MastFlags().paint(5, 0, 2, 0), 1);
        due("the same fly alone", new MastFlags().paint(5, 7, 1, 0), 1);
        due("the mirrored one", new MastFlags().paint(5, 1, 0, 0), 1);
        due("what it was does not count", new MastFlags().paint(0, 1, 1, 0), 1);
        due("like two others", new MastFlags().paint(5, 0, 1, 2), 3);
    }

    @Says("NO_SUCH if there is no such flag")
    static void promise02NoSuchFlag() {
        refusedOutside(0, 9, (x, flag) -> x.paint(flag, 3, 3, 3), NO_SUCH);
    }

    @Says("BAD_VALUE if another argument is out of range")
    static void promise02BadValue() {
        refusedOutside(0, 7, (x, hoist) -> x.paint(0, hoist, 3, 3), BAD_VALUE);
        refusedOutside(0, 7, (x, fly) -> x.paint(9, 3, fly, 3), BAD_VALUE);
        refusedOutside(0, 9, (x, weight) -> x.paint(5, 3, 3, weight), BAD_VALUE);
    }

    @Says({"NO_SUCH if there is no such flag", "BAD_VALUE if another argument is out of range"})
    static void promise02NoSuchComesFirst() {
        refusedEverywhere("all too large", x -> x.paint(10, 8, 8, 10), NO_SUCH);
        refusedEverywhere("all too small", x -> x.paint(-1, -1, -1, -1), NO_SUCH);
        refusedEverywhere("no such flag of a wrong weight", x -> x.paint(10, 0, 0, 10), NO_SUCH);
    }

    // ---- promise 3: setStock

    @Says("Changes the stock.")
    static void promise03ChangesTheStock() {
        MastFlags x = new MastFlags();
        for (int stock : new int[] {2, 3, 3, 1, 3, 2}) {
            x.setStock(stock);
            due("total(2)", x.total(2), stock);
            due("pieces of 0", x.flag(0, 3), stock);
            due("pieces of 9", x.flag(9, 3), stock);
        }
    }

    @Says("Undoable.")
    static void promise03Undoable() {
        undoable("setStock", MastFlags::new, x -> x.setStock(3));
        undoable("setStock as it is", MastFlags::new, x -> x.setStock(1));
        undoable("setStock, close up", Masts::closeUp, x -> x.setStock(1));
        undoable("setStock, brimful", Masts::brimful, x -> x.setStock(2));
    }

    @Says("`stock`: 1 to 3")
    static void promise03StockOneToThree() {
        takenWithin(1, 3, MastFlags::setStock);
    }

    @Says("Returns the previous stock")
    static void promise03ReturnsThePreviousOne() {
        MastFlags x = new MastFlags();
        due("the first", x.setStock(3), 1);
        due("the same again", x.setStock(3), 3);
        due("less", x.setStock(2), 3);
        due("least", x.setStock(1), 2);
    }

    @Says("BAD_VALUE if stock is out of range")
    static void promise03BadValue() {
        refusedOutside(1, 3, MastFlags::setStock, BAD_VALUE);
    }

    /** So many pieces of a sign on the mast, each on a hoist of its own below signs that it may repeat. */
    private static MastFlags withPieces(int sign, int pieces) {
        MastFlags x = new MastFlags();
        x.setStock(3);
        for (int halyard = 0; halyard < pieces; halyard++) {
            if (sign > PENNANT) {
                bendAll(x, 4 - halyard, halyard, halyard + 3, halyard + 6);
            }
            taken("bend", x.bend(4 - halyard, sign));
        }
        return x;
    }

    @Says("NOT_POSSIBLE if more pieces of a kind are on the mast")
    static void promise03NotPossible() {
        for (int sign = 0; sign <= PENNANT + 3; sign++) {
            if (sign == PENNANT) {
                continue;
            }
            int kind = sign;
            refused("1 of two of " + kind, () -> withPieces(kind, 2), x -> x.setStock(1), NOT_POSSIBLE);
            refused("1 of three of " + kind, () -> withPieces(kind, 3), x -> x.setStock(1), NOT_POSSIBLE);
            refused("2 of three of " + kind, () -> withPieces(kind, 3), x -> x.setStock(2), NOT_POSSIBLE);
            due("3 of three of " + kind, withPieces(kind, 3).setStock(3), 3);
            due("2 of two of " + kind, withPieces(kind, 2).setStock(2), 3);
            due("1 of one of " + kind, withPieces(kind, 1).setStock(1), 3);
        }
        refused("all on one hoist", () -> hoisted(2, 7, 7, 7), x -> x.setStock(2), NOT_POSSIBLE);
        refused("at the lower end", () -> hoisted(2, 5, 6, 7, 7), x -> x.setStock(1), NOT_POSSIBLE);
        refused("two of pennant 1 on one hoist", () -> hoisted(0, 5, PENNANT + 1, PENNANT + 1),
                x -> x.setStock(1), NOT_POSSIBLE);
        refused("brimful", Masts::brimful, x -> x.setStock(1), NOT_POSSIBLE);
    }

    @Says("NOT_POSSIBLE if more pieces of a kind are on the mast")
    static void promise03PossibleWithThePiecesThatAreThereNow() {
        due("a pennant is no piece of what it repeats", hoisted(1, 5, PENNANT + 1, PENNANT + 2).setStock(1), 3);
        due("many kinds", hoisted(1, 5, 6, 7, 8).setStock(1), 3);
        MastFlags x = hoisted(1, 5, 5, 5);
        x.unbend(1);
        due("two behind unbend", x.setStock(2), 3);
        x.unbend(1);
        due("one behind unbend", x.setStock(1), 2);
        MastFlags lowered = hoisted(1, 5, 5, 5);
        lowered.lower();
        due("none behind lower", lowered.setStock(1), 3);
    }

    @Says({"BAD_VALUE if stock is out of range", "NOT_POSSIBLE if more pieces of a kind are on the mast"})
    static void promise03BadValueComesFirst() {
        refused("0", () -> hoisted(0, 5, 5, 5), x -> x.setStock(0), BAD_VALUE);
        refused("-1", () -> hoisted(0, 5, 5, 5), x -> x.setStock(-1), BAD_VALUE);
    }

    // ---- promise 4: setWind

    @Says("Changes the wind.")
    static void promise04ChangesTheWind() {
        for (int strength = 0; strength <= 9; strength++) {
            for (int from = 0; from <= 1; from++) {
                MastFlags x = new MastFlags();
                x.setWind(strength, from);
                due("strength", x.total(0), strength);
                due("from", x.total(1), from);
            }
        }
    }

    @Says("Undoable.")
    static void promise04Undoable() {
        undoable("setWind", MastFlags::new, x -> x.setWind(0, 1));
        undoable("setWind as it is", MastFlags::new, x -> x.setWind(5, 0));
        undoable("setWind as it is, close up", Masts::closeUp, x -> x.setWind(5, 0));
        undoable("setWind, brimful", Masts::brimful, x -> x.setWind(9, 0));
    }

    @Says("`strength`: 0 to 9")
    static void promise04StrengthZeroToNine() {
        takenWithin(0, 9, (x, strength) -> x.setWind(strength, 1));
    }

    @Says("`from`: 0 for the left, 1 for the right")
    static void promise04FromLeftAndRight() {
        takenWithin(0, 1, (x, from) -> x.setWind(5, from));
        MastFlags x = hoisted(0, 3);
        x.setWind(5, 0);
        due("from the left, the front knows 3", x.seen(0, 0, 1), 3);
        x.setWind(5, 1);
        due("from the right, the front does not", x.seen(0, 0, 1), NONE);
    }

    @Says("Returns the previous strength")
    static void promise04ReturnsThePreviousStrength() {
        MastFlags x = new MastFlags();
        due("the first", x.setWind(0, 0), 5);
        due("of none", x.setWind(9, 1), 0);
        due("of most", x.setWind(9, 0), 9);
        due("the same", x.setWind(1, 1), 9);
    }

    @Says("BAD_VALUE if an argument is out of range")
    static void promise04BadValue() {
        refusedOutside(0, 9, (x, strength) -> x.setWind(strength, 1), BAD_VALUE);
        refusedOutside(0, 1, (x, from) -> x.setWind(3, from), BAD_VALUE);
        refusedEverywhere("both", x -> x.setWind(10, 2), BAD_VALUE);
    }

    // ---- promise 5: flag

    @Says({"Returns something about a flag.", "`part`:", "0 for its colour at the hoist"})
    static void promise05ColourAtTheHoist() {
        MastFlags x = new MastFlags();
        for (int flag = 0; flag < 10; flag++) {
            due("of " + flag, x.flag(flag, 0), flag % 8);
        }
        x.paint(9, 0, 7, 5);
        due("painted", x.flag(9, 0), 0);
        x.setWind(0, 1);
        due("whatever the wind does", x.flag(9, 0), 0);
    }

    @Says("1 for that at the fly")
    static void promise05ColourAtTheFly() {
        MastFlags x = new MastFlags();
        int[] fly = {1, 4, 7, 2, 5, 0, 3, 6, 1, 4};
        for (int flag = 0; flag < 10; flag++) {
            due("of " + flag, x.flag(flag, 1), fly[flag]);
        }
        x.paint(9, 0, 7, 5);
        due("painted", x.flag(9, 1), 7);
    }

    @Says("2 for its weight")
    static void promise05Weight() {
        MastFlags x = new MastFlags();
        int[] weight = {0, 0, 1, 1, 2, 2, 3, 3, 4, 4};
        for (int flag = 0; flag < 10; flag++) {
            due("of " + flag, x.flag(flag, 2), weight[flag]);
        }
        x.paint(0, 0, 7, 9);
        due("painted", x.flag(0, 2), 9);
    }

    @Says("3 for the number of pieces that are left")
    static void promise05PiecesLeft() {
        MastFlags x = new MastFlags();
        x.setStock(3);
        for (int halyard = 0; halyard < 3; halyard++) {
            due("ahead of bend", x.flag(6, 3), 3 - halyard);
            x.bend(halyard, 6);
        }
        due("none", x.flag(6, 3), 0);
        x.bend(0, PENNANT + 1);
        due("a pennant takes none", x.flag(6, 3), 0);
        x.unbend(0);
        due("unbending a pennant gives none", x.flag(6, 3), 0);
        x.unbend(1);
        due("one is back", x.flag(6, 3), 1);
        x.setStock(2);
        due("of a stock of 2", x.flag(6, 3), 0);
        x.lower();
        due("all are back", x.flag(6, 3), 2);
        due("all of another", x.flag(5, 3), 2);
    }

    @Says("4 for the flag for which it is taken if its colours are seen the other way round")
    static void promise05TheOtherWayRound() {
        MastFlags x = new MastFlags();
        x.paint(9, 2, 3, 9);
        due("the last flag", x.flag(3, 4), 9);
        due("and back", x.flag(9, 4), 3);
        x.paint(6, 2, 3, 0);
        due("the lowest one", x.flag(3, 4), 6);
        x.paint(0, 2, 3, 0);
        due("the first flag", x.flag(3, 4), 0);
        x.paint(5, 6, 6, 0);
        due("itself", x.flag(5, 4), 5);
        x.paint(2, 6, 6, 9);
        due("a lower one of one colour", x.flag(5, 4), 2);
        x.setWind(0, 0);
        due("though it droops", x.flag(2, 4), 2);
        x.setWind(0, 1);
        due("wherever the wind comes from", x.flag(3, 4), 0);
    }

    @Says("(NONE if there is no such flag)")
    static void promise05NoneTheOtherWayRound() {
        for (int flag = 0; flag < 10; flag++) {
            int asked = flag;
            tells("of " + flag, MastFlags::new, x -> x.flag(asked, 4), NONE);
        }
    }

    @Says({"`flag`: 0 to 9", "Returns the number"})
    static void promise05FlagsZeroToNine() {
        for (int part = 0; part <= 4; part++) {
            int asked = part;
            takenWithin(0, 9, (x, flag) -> x.flag(flag, asked));
        }
        tells("the first", Masts::full, x -> x.flag(0, 0), 1);
        tells("the last", Masts::brimful, x -> x.flag(9, 1), 4);
    }

    @Says("NO_SUCH if there is no such flag")
    static void promise05NoSuchFlag() {
        for (int part : new int[] {0, 3, 4}) {
            refusedOutside(0, 9, (x, flag) -> x.flag(flag, part), NO_SUCH);
        }
    }

    @Says("BAD_VALUE if part is out of range")
    static void promise05BadValue() {
        refusedOutside(0, 4, (x, part) -> x.flag(0, part), BAD_VALUE);
        refusedOutside(0, 4, (x, part) -> x.flag(9, part), BAD_VALUE);
    }

    @Says({"NO_SUCH if there is no such flag", "BAD_VALUE if part is out of range"})
    static void promise05NoSuchComesFirst() {
        refusedEverywhere("both too large", x -> x.flag(10, 5), NO_SUCH);
        refusedEverywhere("both too small", x -> x.flag(-1, -1), NO_SUCH);
    }
}
