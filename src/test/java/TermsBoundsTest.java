import java.util.ArrayList;
import java.util.LinkedHashMap;
import java.util.List;
import java.util.Map;
import java.util.function.Supplier;
import java.util.function.ToIntFunction;

/** The sentences of the sections "What it is", "The public face" and "Terms", but for its answers, texts and undo. */
public final class TermsBoundsTest extends Bounds {
    public static void main(String[] args) {
        run(TermsBoundsTest.class);
    }

    // ---- what it is, the public face

    @Says("An object is used for at most 512 calls after it has been made")
    static void whatFiveHundredTwelveCalls() {
        MastFlags x = Masts.withBook();
        int calls = 7;
        int messages = 0;
        while (calls + 4 < 512) {
            due("bend", x.bend(messages % 5, messages % 3), 1);
            due("answer", x.answer(), 1);
            due("answer again", x.answer(), 2);
            due("lower", x.lower(), 1);
            calls += 4;
            messages++;
        }
        while (calls < 511) {
            due("sail", x.sail(0), 0);
            calls++;
        }
        due("the 512th call", x.total(9), messages);
    }

    @Says("An object is used for at most 512 calls after it has been made")
    static void whatFiveHundredTwelveCallsThatRecord() {
        MastFlags x = new MastFlags();
        for (int call = 1; call <= 511; call++) {
            due("call " + call, x.setWind(call % 10, call % 2), call == 1 ? 5 : (call - 1) % 10);
        }
        due("the 512th call", x.undo(), 4);
    }

    @Says({"public static final int NO_SUCH = -1;", "public static final int BAD_VALUE = -2;",
        "public static final int NOT_POSSIBLE = -3;", "public static final int LIMIT = -4;",
        "public static final int BAD_TEXT = -5;", "public static final int NONE = -6;",
        "public static final int PENNANT = 10;"})
    static void faceConstants() {
        int[] constants = {NO_SUCH, BAD_VALUE, NOT_POSSIBLE, LIMIT, BAD_TEXT, NONE, PENNANT};
        int[] values = {-1, -2, -3, -4, -5, -6, 10};
        for (int index = 0; index < values.length; index++) {
            due("constant " + index, constants[index], values[index]);
        }
    }

    // ---- return values

    @Says("A method that fails returns one of the error codes NO_SUCH, BAD_VALUE, NOT_POSSIBLE, LIMIT and BAD_TEXT.")
    static void termsErrorCodes() {
        MastFlags x = new MastFlags();
        due("`NO_SUCH = -1`", x.unbend(5), -1);
        due("`BAD_VALUE = -2`", x.sail(2), -2);
        due("`NOT_POSSIBLE = -3`", x.unbend(4), -3);
        x.bend(0, 0);
        due("`LIMIT = -4`", x.bend(0, 0), -4);
        due("`BAD_TEXT = -5`", x.hoist(), -5);
    }

    @Says("`NO_SUCH = -1`: There is no such flag, pennant, halyard, place, entry or message.")
    static void termsNoSuch() {
        refusedEverywhere("flag", x -> x.flag(10, 0), -1);
        refusedEverywhere("pennant", x -> x.bend(0, PENNANT + 4), -1);
        refusedEverywhere("halyard", x -> x.unbend(5), -1);
        refusedEverywhere("place", x -> x.sign(0, 5, 0), -1);
        refusedEverywhere("entry", x -> x.strike(12), -1);
        refusedEverywhere("message", x -> x.logged(8, 0), -1);
    }

    @Says("`BAD_VALUE = -2`: Another argument is out of its range.")
    static void termsBadValue() {
        refusedEverywhere("colour", x -> x.paint(0, 8, 0, 0), -2);
        refusedEverywhere("stock", x -> x.setStock(0), -2);
        refusedEverywhere("what", x -> x.total(10), -2);
    }

    @Says("`NOT_POSSIBLE = -3`: The call is not possible in the current state.")
    static void termsNotPossible() {
        refused("unbend", MastFlags::new, x -> x.unbend(0), -3);
        refused("answer", Masts::closeUp, x -> x.answer(), -3);
        refused("undo", MastFlags::new, x -> x.undo(), -3);
        refused("restore", Masts::closeUp, x -> x.restore(), -3);
        refused("setStock", Masts::full, x -> x.setStock(1), -3);
    }

    @Says("`LIMIT = -4`: There is no room for another sign, entry or character, or no piece of this kind left.")
    static void termsLimit() {
        refused("sign", Masts::brimful, x -> x.bend(0, 9), -4);
        refused("entry", Masts::brimful, x -> x.enter(10, 0), -4);
        refused("character", Masts::brimful, x -> x.append('0'), -4);
        refused("piece", () -> hoisted(0, 9, 9, 9), x -> x.bend(1, 9), -4);
    }

    @Says("`BAD_TEXT = -5`: The buffer does not contain a text.")
    static void termsBadText() {
        refused("empty", MastFlags::new, x -> x.hoist(), -5);
        refused("brimful", Masts::brimful, x -> x.hoist(), -5);
    }

    @Says("`NONE = -6`: There is no such result.")
    static void termsNone() {
        tells("mirror", MastFlags::new, x -> x.flag(0, 4), -6);
        tells("bestEntry", MastFlags::new, x -> x.bestEntry(0), -6);
        tells("errorPosition", Masts::signalling, x -> x.errorPosition(), -6);
    }

    @Says("`PENNANT = 10`: The sign for the pennant p is PENNANT + p.")
    static void termsPennant() {
        for (int pennant = 1; pennant <= 3; pennant++) {
            MastFlags x = hoisted(0, 4, 5, 6);
            due("bend", x.bend(0, 10 + pennant), 4);
            due("it repeats", x.sign(0, 4, 1), 3 + pennant);
            due("unbend", x.unbend(0), 10 + pennant);
        }
    }

    @Says("Each method lists its error codes in the order in which they are checked; the first one that "
            + "applies is returned.")
    static void termsFirstErrorThatApplies() {
        refusedEverywhere("paint", x -> x.paint(10, 8, 8, 10), NO_SUCH);
        refused("setStock", () -> hoisted(0, 5, 5), x -> x.setStock(0), BAD_VALUE);
        refusedEverywhere("flag", x -> x.flag(-1, 5), NO_SUCH);
        refusedEverywhere("bend", x -> x.bend(5, PENNANT + 1), NO_SUCH);
        refusedEverywhere("exchange", x -> x.exchange(5, 5), NO_SUCH);
        refusedEverywhere("sign", x -> x.sign(0, 5, 3), NO_SUCH);
        refused("enter", Masts::brimful, x -> x.enter(0, 0), BAD_VALUE);
        refusedEverywhere("entry", x -> x.entry(12, 2), NO_SUCH);
        refusedEverywhere("seen", x -> x.seen(2, 5, 0), BAD_VALUE);
        refusedEverywhere("word", x -> x.word(2, 5), BAD_VALUE);
        refusedEverywhere("logged", x -> x.logged(8, 6), NO_SUCH);
        refused("append", Masts::brimful, x -> x.append(32), BAD_VALUE);
        refused("hoist", () -> typed("0:1,1:1,"), x -> x.hoist(), BAD_TEXT);
    }

    /** Every method that can fail, refused on masts that hold something of everything. */
    @Says("A call that returns an error code changes nothing.")
    static void termsARefusedCallChangesNothing() {
        Map<String, ToIntFunction<MastFlags>> calls = new LinkedHashMap<>();
        calls.put("paint", x -> x.paint(0, 7, 7, 10));
        calls.put("setStock", x -> x.setStock(4));
        calls.put("setWind", x -> x.setWind(0, 2));
        calls.put("flag", x -> x.flag(0, 5));
        calls.put("bend", x -> x.bend(2, PENNANT + 3));
        calls.put("unbend", x -> x.unbend(1));
        calls.put("exchange", x -> x.exchange(0, 0));
        calls.put("sign", x -> x.sign(0, 1, 3));
        calls.put("enter", x -> x.enter(15, 100));
        calls.put("strike", x -> x.strike(12));
        calls.put("entry", x -> x.entry(0, 2));
        calls.put("seen", x -> x.seen(2, 0, 1));
        calls.put("word", x -> x.word(0, 5));
        calls.put("known", x -> x.known(2));
        calls.put("sail", x -> x.sail(2));
        calls.put("answer", x -> x.answer());
        calls.put("logged", x -> x.logged(0, 6));
        calls.put("total", x -> x.total(10));
        calls.put("leastWind", x -> x.leastWind(2));
        calls.put("ifTurned", x -> x.ifTurned(2));
        calls.put("bestEntry", x -> x.bestEntry(100));
        calls.put("append", x -> x.append(127));
        calls.put("hoist", x -> x.hoist());
        for (Supplier<MastFlags> make : List.<Supplier<MastFlags>>of(Masts::full, Masts::brimful)) {
            for (Map.Entry<String, ToIntFunction<MastFlags>> call : calls.entrySet()) {
                int code = call.getValue().applyAsInt(make.get());
                due(call.getKey() + " is refused", isError(code) ? 1 : 0, 1);
                refused(call.getKey(), make, call.getValue(), code);
            }
        }
    }

    @Says("NONE is not an error code; a method returns NONE only if no error code applies.")
    static void termsNoneOnlyWithoutAnError() {
        refusedEverywhere("flag", x -> x.flag(10, 4), NO_SUCH);
        refusedEverywhere("seen", x -> x.seen(2, 0, 1), BAD_VALUE);
        refusedEverywhere("word", x -> x.word(2, 0), BAD_VALUE);
        refusedEverywhere("leastWind", x -> x.leastWind(2), BAD_VALUE);
        refusedEverywhere("bestEntry", x -> x.bestEntry(100), BAD_VALUE);
        refused("word of no hoist", MastFlags::new, x -> x.word(0, 0), NO_SUCH);
    }

    // ---- flags

    @Says("There are 10 flags, 0 to 9.")
    static void termsTenFlags() {
        takenWithin(0, 9, (x, flag) -> x.flag(flag, 0));
        takenWithin(0, 9, (x, flag) -> x.paint(flag, 0, 0, 0));
        takenWithin(0, 9, (x, flag) -> x.bend(0, flag));
    }

    @Says("Each has a colour at the hoist (the edge at the halyard) and a colour at the fly (the other edge), "
            + "0 to 7, and a weight, 0 to 9.")
    static void termsColoursAndWeights() {
        for (int flag = 0; flag < 10; flag++) {
            int painted = flag;
            takenWithin(0, 7, (x, colour) -> x.paint(painted, colour, 7 - Math.floorMod(colour, 8), 9));
            takenWithin(0, 7, (x, colour) -> x.paint(painted, Math.floorMod(colour, 8), colour, 0));
            takenWithin(0, 9, (x, weight) -> x.paint(painted, 7, 0, weight));
        }
    }

    @Says("At the beginning the flag k has the colour k modulo 8 at the hoist and the colour (3 * k + 1) "
            + "modulo 8 at the fly, and the weight k / 2, rounded down.")
    static void termsFlagsAtTheBeginning() {
        MastFlags x = new MastFlags();
        int[] hoist = {0, 1, 2, 3, 4, 5, 6, 7, 0, 1};
        int[] fly = {1, 4, 7, 2, 5, 0, 3, 6, 1, 4};
        int[] weight = {0, 0, 1, 1, 2, 2, 3, 3, 4, 4};
        for (int flag = 0; flag < 10; flag++) {
            due("hoist of " + flag, x.flag(flag, 0), hoist[flag]);
            due("fly of " + flag, x.flag(flag, 1), fly[flag]);
            due("weight of " + flag, x.flag(flag, 2), weight[flag]);
        }
    }

    @Says("There are also 3 pennants, 1 to 3, which have no colours and no weight.")
    static void termsThreePennants() {
        takenWithin(() -> hoisted(0, 4, 5, 6), 1, 3, (x, pennant) -> x.bend(0, PENNANT + pennant));
        MastFlags x = hoisted(0, 0, PENNANT + 1, PENNANT + 2, PENNANT + 3);
        x.setWind(0, 0);
        for (int place = 1; place <= 4; place++) {
            due("it does not droop", x.sign(0, place, 2), 0);
            due("it is known", x.seen(0, 0, place), 0);
        }
        due("a pennant is no flag to paint", x.paint(PENNANT + 1, 0, 0, 0), NO_SUCH);
        due("nor to ask for", x.flag(PENNANT + 1, 0), NO_SUCH);
    }

    @Says("Of each flag and of each pennant there are so many pieces as the setting stock tells.")
    static void termsPiecesAsTheStockTells() {
        for (int stock = 1; stock <= 3; stock++) {
            for (int sign = 0; sign <= PENNANT + 3; sign++) {
                if (sign != PENNANT) {
                    due("stock " + stock + ", sign " + sign, piecesThatCanBeBent(stock, sign), stock);
                }
            }
        }
    }

    /** One more is tried on another halyard; a pennant is bent below three flags. */
    private static int piecesThatCanBeBent(int stock, int sign) {
        MastFlags x = new MastFlags();
        x.setStock(stock);
        int pieces = 0;
        for (int halyard = 0; halyard <= stock; halyard++) {
            if (sign > PENNANT) {
                bendAll(x, halyard, 3 * halyard % 10, (3 * halyard + 1) % 10, (3 * halyard + 2) % 10);
            }
            pieces += x.bend(halyard, sign) > 0 ? 1 : 0;
        }
        return pieces;
    }

    // ---- mast

    @Says("The mast has 5 halyards, 0 to 4, from left to right as seen from the front.")
    static void termsFiveHalyards() {
        takenWithin(0, 4, (x, halyard) -> x.bend(halyard, 9));
        MastFlags x = known(5);
        for (int halyard = 0; halyard < 5; halyard++) {
            due("the front's word " + halyard, x.word(0, halyard), 50 + halyard);
        }
    }

    @Says("On each there is a hoist of 0 to 4 signs, told from the top; a sign is a flag or a pennant.")
    static void termsHoistsOfZeroToFourSigns() {
        for (int halyard = 0; halyard < 5; halyard++) {
            MastFlags x = new MastFlags();
            due("0 signs", x.sign(halyard, 1, 0), NO_SUCH);
            due("1 sign", x.bend(halyard, 9), 1);
            due("2 signs", x.bend(halyard, PENNANT + 1), 2);
            due("3 signs", x.bend(halyard, 8), 3);
            due("4 signs", x.bend(halyard, PENNANT + 3), 4);
            due("5 signs", x.bend(halyard, 7), LIMIT);
            int[] signs = {9, PENNANT + 1, 8, PENNANT + 3};
            for (int place = 1; place <= 4; place++) {
                due("from the top", x.sign(halyard, place, 0), signs[place - 1]);
            }
        }
    }

    @Says("The pennant p repeats the sign at the place p of the same hoist (1 for the uppermost one), which "
            + "must be above it; if that is a pennant, too, it repeats what that one repeats.")
    static void termsPennantsRepeat() {
        for (int pennant = 1; pennant <= 3; pennant++) {
            MastFlags x = hoisted(0, 9, 8, 7, PENNANT + pennant);
            due("pennant " + pennant, x.sign(0, 4, 1), 10 - pennant);
        }
        MastFlags first = hoisted(2, 9, 8, PENNANT + 1, PENNANT + 3);
        due("the third repeats the first", first.sign(2, 4, 1), 9);
        MastFlags second = hoisted(2, 9, 8, PENNANT + 2, PENNANT + 3);
        due("the third repeats the second", second.sign(2, 4, 1), 8);
        MastFlags chain = hoisted(2, 9, PENNANT + 1, PENNANT + 2, PENNANT + 3);
        due("over three pennants", chain.sign(2, 4, 1), 9);
        MastFlags twice = hoisted(2, 9, PENNANT + 1, PENNANT + 1, PENNANT + 2);
        due("one of two", twice.sign(2, 4, 1), 9);
        due("which must be above it: itself", hoisted(0, 9).bend(0, PENNANT + 2), NOT_POSSIBLE);
        due("which must be above it: below", hoisted(0, 9).bend(0, PENNANT + 3), NOT_POSSIBLE);
        due("which must be above it: none", new MastFlags().bend(0, PENNANT + 1), NOT_POSSIBLE);
    }

    /** Every hoist that can be: each sign stands for a flag of those above it or for itself. */
    @Says("So each sign stands for a flag.")
    static void termsEachSignStandsForAFlag() {
        int[] kinds = {4, 5, PENNANT + 1, PENNANT + 2, PENNANT + 3};
        for (int hoist = 0; hoist < 625; hoist++) {
            MastFlags x = new MastFlags();
            x.setStock(3);
            int[] flags = new int[4];
            int size = 0;
            for (int rest = hoist, step = 0; step < 4; step++, rest /= 5) {
                int sign = kinds[rest % 5];
                if (x.bend(3, sign) > 0) {
                    flags[size] = sign > PENNANT ? flags[sign - PENNANT - 1] : sign;
                    size++;
                    due("hoist " + hoist + ", place " + size, x.sign(3, size, 1), flags[size - 1]);
                }
            }
        }
    }

    // ---- wind

    @Says("The wind has a strength, 0 to 9 (5 at the beginning), and comes from the left (0, at the beginning) "
            + "or from the right (1), as seen from the front.")
    static void termsWind() {
        due("strength at the beginning", new MastFlags().total(0), 5);
        due("from the left at the beginning", new MastFlags().total(1), 0);
        takenWithin(0, 9, (x, strength) -> x.setWind(strength, 0));
        takenWithin(0, 1, (x, from) -> x.setWind(0, from));
    }

    @Says("A flag droops if its weight is greater than the strength.")
    static void termsFlagsDroop() {
        for (int weight = 0; weight <= 9; weight++) {
            for (int strength = 0; strength <= 9; strength++) {
                MastFlags x = hoisted(0, 5);
                x.paint(5, 6, 6, weight);
                x.setWind(strength, 0);
                boolean droops = weight > strength;
                due("weight " + weight + ", strength " + strength, x.sign(0, 1, 2), droops ? 1 : 0);
                due("front", x.seen(0, 0, 1), droops ? NONE : 5);
                due("behind", x.seen(1, 0, 1), droops ? NONE : 5);
            }
        }
    }

    // ---- reading

    @Says({"A reader looks from the front (side 0) or from behind (side 1).", "Flags fly away from where the "
            + "wind comes from.",
        "A flag that does not droop shows its two colours to the reader, from left to right: for the front "
            + "with the wind from the left, and for behind with the wind from the right, first the colour at "
            + "the hoist, then that at the fly; in the other two cases first the colour at the fly."})
    static void termsColoursFromLeftToRight() {
        MastFlags x = hoisted(0, 3);
        x.paint(9, 2, 3, 0);
        due("front, wind from the left", x.seen(0, 0, 1), 3);
        due("behind, wind from the left", x.seen(1, 0, 1), 9);
        x.setWind(1, 1);
        due("front, wind from the right", x.seen(0, 0, 1), 9);
        due("behind, wind from the right", x.seen(1, 0, 1), 3);
    }

    @Says("Who looks from behind sees the halyards the other way round: the halyard 4 first, then 3, and so on.")
    static void termsFromBehindTheOtherWayRound() {
        MastFlags x = known(5);
        for (int word = 0; word < 5; word++) {
            due("word " + word, x.word(1, word), 54 - word);
        }
        x.setWind(5, 1);
        for (int word = 0; word < 5; word++) {
            due("whatever the wind, word " + word, x.word(1, word), 54 - word);
        }
    }

    @Says("The reader takes it for the flag with the lowest number that has the first colour at the hoist and "
            + "the second one at the fly")
    static void termsLowestNumber() {
        MastFlags x = hoisted(0, 9);
        due("9 is like 1", x.seen(0, 0, 1), 1);
        x.paint(1, 0, 0, 0);
        due("9 alone", x.seen(0, 0, 1), 9);
        for (int flag = 8; flag >= 0; flag--) {
            x.paint(flag, 1, 4, 9);
            due("a lower one, though it would droop", x.seen(0, 0, 1), flag);
        }
        x.paint(0, 4, 1, 0);
        due("the mirror does not count", x.seen(0, 0, 1), 1);
        due("but for the other side", x.seen(1, 0, 1), 0);
    }

    @Says("if there is none, or if the flag droops, the reader does not know it")
    static void termsNotKnown() {
        MastFlags x = hoisted(0, 9);
        due("there is none from behind", x.seen(1, 0, 1), NONE);
        x.setWind(4, 0);
        due("as heavy as the wind", x.seen(0, 0, 1), 1);
        x.setWind(3, 0);
        due("it droops, though 1 would not", x.seen(0, 0, 1), NONE);
    }

    @Says("The reader takes a pennant for what the reader takes the sign for that it repeats; it is not known "
            + "if that one is not.")
    static void termsPennantsAreTakenFor() {
        MastFlags x = hoisted(0, 3, PENNANT + 1, PENNANT + 2);
        x.paint(9, 2, 3, 0);
        for (int place = 1; place <= 3; place++) {
            due("front", x.seen(0, 0, place), 3);
            due("behind", x.seen(1, 0, place), 9);
        }
        x.setWind(0, 0);
        for (int place = 1; place <= 3; place++) {
            due("it droops", x.seen(0, 0, place), NONE);
        }
        MastFlags mixed = hoisted(0, 0, 8, PENNANT + 2, PENNANT + 1);
        mixed.setWind(3, 0);
        due("what does not droop", mixed.seen(0, 0, 4), 0);
        due("what droops", mixed.seen(0, 0, 3), NONE);
    }

    @Says("The reader reads a hoist as the word of the first entry of the book whose flags are, in their "
            + "order, those for which the reader takes the signs of the hoist from the top")
    static void termsWordOfTheFirstEntry() {
        MastFlags x = hoisted(0, 8, 5, PENNANT + 1);
        x.enter(1858, 11);
        due("8 is taken for 0", x.word(0, 0), NONE);
        x.enter(1005, 12);
        due("another order", x.word(0, 0), NONE);
        x.enter(105, 13);
        due("the beginning alone", x.word(0, 0), NONE);
        x.enter(10500, 14);
        due("a longer one", x.word(0, 0), NONE);
        x.enter(1050, 15);
        due("the very flags", x.word(0, 0), 15);
        x.enter(1050, 16);
        due("the first of two", x.word(0, 0), 15);
        x.strike(4);
        due("then the second", x.word(0, 0), 16);
    }

    @Says("the word is not known if there is none, or if a sign is not known")
    static void termsWordNotKnown() {
        MastFlags x = hoisted(0, 4, 9);
        due("an empty book", x.word(0, 0), NONE);
        x.enter(141, 0);
        due("the word 0", x.word(0, 0), 0);
        x.setWind(3, 0);
        due("the lower sign droops", x.word(0, 0), NONE);
        x.setWind(4, 1);
        due("from the front no flag is so", x.word(0, 0), NONE);
        due("but from behind", x.word(1, 0), 0);
    }

    @Says("A message is what the reader reads of the hoists that are not empty, in the order in which the "
            + "reader sees them.")
    static void termsMessage() {
        for (int mask = 0; mask < 32; mask++) {
            MastFlags x = known(5);
            List<Integer> front = new ArrayList<>();
            for (int halyard = 0; halyard < 5; halyard++) {
                if ((mask >> halyard & 1) == 0) {
                    x.unbend(halyard);
                } else {
                    front.add(50 + halyard);
                }
            }
            int size = front.size();
            for (int word = 0; word < size; word++) {
                due("front of " + mask, x.word(0, word), front.get(word));
                due("behind of " + mask, x.word(1, word), front.get(size - 1 - word));
            }
            due("front, no more of " + mask, x.word(0, size), NO_SUCH);
            due("behind, no more of " + mask, x.word(1, size), NO_SUCH);
        }
    }

    // ---- book

    @Says("The book has at most 12 entries, in the order in which they were entered; an entry has 1 to 4 flags "
            + "and a word, 0 to 99.")
    static void termsBook() {
        MastFlags x = new MastFlags();
        int[] numbers = {19, 10, 100, 199, 1999, 1000, 10000, 19999, 15, 11, 17, 10};
        for (int entry = 0; entry < 12; entry++) {
            due("enter", x.enter(numbers[entry], 99 - entry * 9), entry + 1);
        }
        due("a thirteenth", x.enter(15, 5), LIMIT);
        for (int entry = 0; entry < 12; entry++) {
            due("flags", x.entry(entry, 0), numbers[entry]);
            due("word", x.entry(entry, 1), 99 - entry * 9);
        }
        due("no flag", new MastFlags().enter(1, 5), BAD_VALUE);
        due("five flags", new MastFlags().enter(111111, 5), BAD_VALUE);
        takenWithin(0, 99, (y, word) -> y.enter(15, word));
    }

    // ---- the whole

    @Says("It tells what each side reads, whether both read the same, which wind is needed, and reads hoists "
            + "from texts.")
    static void termsWhatItTells() {
        MastFlags x = typed("1:0,3:0");
        x.setStock(2);
        x.paint(0, 5, 5, 7);
        x.enter(10, 42);
        x.hoist();
        x.setWind(8, 0);
        due("the front", x.word(0, 1), 42);
        due("behind", x.word(1, 1), 42);
        due("the same", x.isSame(), 1);
        due("the wind that is needed", x.leastWind(1), 7);
    }

    @Says("---- predictions; they change nothing.")
    static void termsPredictionsChangeNothing() {
        for (Supplier<MastFlags> make : List.<Supplier<MastFlags>>of(
                MastFlags::new, Masts::signalling, Masts::full, Masts::closeUp, Masts::brimful)) {
            for (int side = 0; side <= 1; side++) {
                int reader = side;
                tells("leastWind", make, x -> x.leastWind(reader), make.get().leastWind(side));
                tells("ifTurned", make, x -> x.ifTurned(reader), make.get().ifTurned(side));
            }
            tells("mendingExchange", make, x -> x.mendingExchange(), make.get().mendingExchange());
            tells("bestEntry", make, x -> x.bestEntry(50), make.get().bestEntry(50));
        }
    }
}
