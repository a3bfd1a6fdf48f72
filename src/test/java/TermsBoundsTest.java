import java.util.ArrayList;
import java.util.LinkedHashMap;
import java.util.List;
import java.util.Map;
import java.util.function.Supplier;
import java.util.function.ToIntFunction;
import java.util.regex.Matcher;
import java.util.regex.Pattern;

/** The sentences of the sections "What it is", "The public face" and "Terms". */
public final class TermsBoundsTest extends Bounds {
    public static void main(String[] args) {
        run(TermsBoundsTest.class);
    }

    // ---- what it is, the public face

    @Says("An object is used for at most 512 calls after it has been made")
    static void whatFiveHundredTwelveCalls() {
        MastFlags x = Masts.withBook();
        int calls = 7;
        int messages = 0;
        while (calls + 4 < 512) {
            due("bend", x.bend(messages % 5, messages % 3), 1);
            due("answer", x.answer(), 1);
            due("answer again", x.answer(), 2);
            due("lower", x.lower(), 1);
            calls += 4;
            messages++;
        }
        while (calls < 511) {
            due("sail", x.sail(0), 0);
            calls++;
        }
        due("the 512th call", x.total(9), messages);
    }

    @Says("An object is used for at most 512 calls after it has been made")
    static void whatFiveHundredTwelveCallsThatRecord() {
        MastFlags x = new MastFlags();
        for (int call = 1; call <= 511; call++) {
            due("call " + call, x.setWind(call % 10, call % 2), call == 1 ? 5 : (call - 1) % 10);
        }
        due("the 512th call", x.undo(), 4);
    }

    @Says({"public static final int NO_SUCH = -1;", "public static final int BAD_VALUE = -2;",
        "public static final int NOT_POSSIBLE = -3;", "public static final int LIMIT = -4;",
        "public static final int BAD_TEXT = -5;", "public static final int NONE = -6;",
        "public static final int PENNANT = 10;"})
    static void faceConstants() {
        int[] constants = {NO_SUCH, BAD_VALUE, NOT_POSSIBLE, LIMIT, BAD_TEXT, NONE, PENNANT};
        int[] values = {-1, -2, -3, -4, -5, -6, 10};
        for (int index = 0; index < values.length; index++) {
            due("constant " + index, constants[index], values[index]);
        }
    }

    // ---- return values

    @Says("A method that fails returns one of the error codes NO_SUCH, BAD_VALUE, NOT_POSSIBLE, LIMIT and BAD_TEXT.")
    static void termsErrorCodes() {
        MastFlags x = new MastFlags();
        due("`NO_SUCH = -1`", x.unbend(5), -1);
        due("`BAD_VALUE = -2`", x.sail(2), -2);
        due("`NOT_POSSIBLE = -3`", x.unbend(4), -3);
        x.bend(0, 0);
        due("`LIMIT = -4`", x.bend(0, 0), -4);
        due("`BAD_TEXT = -5`", x.hoist(), -5);
    }

    @Says("`NO_SUCH = -1`: There is no such flag, pennant, halyard, place, entry or message.")
    static void termsNoSuch() {
        refusedEverywhere("flag", x -> x.flag(10, 0), -1);
        refusedEverywhere("pennant", x -> x.bend(0, PENNANT + 4), -1);
        refusedEverywhere("halyard", x -> x.unbend(5), -1);
        refusedEverywhere("place", x -> x.sign(0, 5, 0), -1);
        refusedEverywhere("entry", x -> x.strike(12), -1);
        refusedEverywhere("message", x -> x.logged(8, 0), -1);
    }

    @Says("`BAD_VALUE = -2`: Another argument is out of its range.")
    static void termsBadValue() {
        refusedEverywhere("colour", x -> x.paint(0, 8, 0, 0), -2);
        refusedEverywhere("stock", x -> x.setStock(0), -2);
        refusedEverywhere("what", x -> x.total(10), -2);
    }

    @Says("`NOT_POSSIBLE = -3`: The call is not possible in the current state.")
    static void termsNotPossible() {
        refused("unbend", MastFlags::new, x -> x.unbend(0), -3);
        refused("answer", Masts::closeUp, x -> x.answer(), -3);
        refused("undo", MastFlags::new, x -> x.undo(), -3);
        refused("restore", Masts::closeUp, x -> x.restore(), -3);
        refused("setStock", Masts::full, x -> x.setStock(1), -3);
    }

    @Says("`LIMIT = -4`: There is no room for another sign, entry or character, or no piece of this kind left.")
    static void termsLimit() {
        refused("sign", Masts::brimful, x -> x.bend(0, 9), -4);
        refused("entry", Masts::brimful, x -> x.enter(10, 0), -4);
        refused("character", Masts::brimful, x -> x.append('0'), -4);
        refused("piece", () -> hoisted(0, 9, 9, 9), x -> x.bend(1, 9), -4);
    }

    @Says("`BAD_TEXT = -5`: The buffer does not contain a text.")
    static void termsBadText() {
        refused("empty", MastFlags::new, x -> x.hoist(), -5);
        refused("brimful", Masts::brimful, x -> x.hoist(), -5);
    }

    @Says("`NONE = -6`: There is no such result.")
    static void termsNone() {
        tells("mirror", MastFlags::new, x -> x.flag(0, 4), -6);
        tells("bestEntry", MastFlags::new, x -> x.bestEntry(0), -6);
        tells("errorPosition", Masts::signalling, x -> x.errorPosition(), -6);
    }

    @Says("`PENNANT = 10`: The sign for the pennant p is PENNANT + p.")
    static void termsPennant() {
        for (int pennant = 1; pennant <= 3; pennant++) {
            MastFlags x = hoisted(0, 4, 5, 6);
            due("bend", x.bend(0, 10 + pennant), 4);
            due("it repeats", x.sign(0, 4, 1), 3 + pennant);
            due("unbend", x.unbend(0), 10 + pennant);
        }
    }

    @Says("Each method lists its error codes in the order in which they are checked; the first one that applies is returned.")
    static void termsFirstErrorThatApplies() {
        refusedEverywhere("paint", x -> x.paint(10, 8, 8, 10), NO_SUCH);
        refused("setStock", () -> hoisted(0, 5, 5), x -> x.setStock(0), BAD_VALUE);
        refusedEverywhere("flag", x -> x.flag(-1, 5), NO_SUCH);
        refusedEverywhere("bend", x -> x.bend(5, PENNANT + 1), NO_SUCH);
        refusedEverywhere("exchange", x -> x.exchange(5, 5), NO_SUCH);
        refusedEverywhere("sign", x -> x.sign(0, 5, 3), NO_SUCH);
        refused("enter", Masts::brimful, x -> x.enter(0, 0), BAD_VALUE);
        refusedEverywhere("entry", x -> x.entry(12, 2), NO_SUCH);
        refusedEverywhere("seen", x -> x.seen(2, 5, 0), BAD_VALUE);
        refusedEverywhere("word", x -> x.word(2, 5), BAD_VALUE);
        refusedEverywhere("logged", x -> x.logged(8, 6), NO_SUCH);
        refused("append", Masts::brimful, x -> x.append(32), BAD_VALUE);
        refused("hoist", () -> typed("0:1,1:1,"), x -> x.hoist(), BAD_TEXT);
    }

    /** Every method that can fail, refused on masts that hold something of everything. */
    @Says("A call that returns an error code changes nothing.")
    static void termsARefusedCallChangesNothing() {
        Map<String, ToIntFunction<MastFlags>> calls = new LinkedHashMap<>();
        calls.put("paint", x -> x.paint(0, 7, 7, 10));
        calls.put("setStock", x -> x.setStock(4));
        calls.put("setWind", x -> x.setWind(0, 2));
        calls.put("flag", x -> x.flag(0, 5));
        calls.put("bend", x -> x.bend(2, PENNANT + 3));
        calls.put("unbend", x -> x.unbend(1));
        calls.put("exchange", x -> x.exchange(0, 0));
        calls.put("sign", x -> x.sign(0, 1, 3));
        calls.put("enter", x -> x.enter(15, 100));
        calls.put("strike", x -> x.strike(12));
        calls.put("entry", x -> x.entry(0, 2));
        calls.put("seen", x -> x.seen(2, 0, 1));
        calls.put("word", x -> x.word(0, 5));
        calls.put("known", x -> x.known(2));
        calls.put("sail", x -> x.sail(2));
        calls.put("answer", x -> x.answer());
        calls.put("logged", x -> x.logged(0, 6));
        calls.put("total", x -> x.total(10));
        calls.put("leastWind", x -> x.leastWind(2));
        calls.put("ifTurned", x -> x.ifTurned(2));
        calls.put("bestEntry", x -> x.bestEntry(100));
        calls.put("append", x -> x.append(127));
        calls.put("hoist", x -> x.hoist());
        for (Supplier<MastFlags> make : List.<Supplier<MastFlags>>of(Masts::full, Masts::brimful)) {
            for (Map.Entry<String, ToIntFunction<MastFlags>> call : calls.entrySet()) {
                int code = call.getValue().applyAsInt(make.get());
                due(call.getKey() + " is refused", isError(code) ? 1 : 0, 1);
                refused(call.getKey(), make, call.getValue(), code);
            }
        }
    }

    @Says("NONE is not an error code; a method returns NONE only if no error code applies.")
    static void termsNoneOnlyWithoutAnError() {
        refusedEverywhere("flag", x -> x.flag(10, 4), NO_SUCH);
        refusedEverywhere("seen", x -> x.seen(2, 0, 1), BAD_VALUE);
        refusedEverywhere("word", x -> x.word(2, 0), BAD_VALUE);
        refusedEverywhere("leastWind", x -> x.leastWind(2), BAD_VALUE);
        refusedEverywhere("bestEntry", x -> x.bestEntry(100), BAD_VALUE);
        refused("word of no hoist", MastFlags::new, x -> x.word(0, 0), NO_SUCH);
    }

    // ---- flags

    @Says("There are 10 flags, 0 to 9.")
    static void termsTenFlags() {
        takenWithin(0, 9, (x, flag) -> x.flag(flag, 0));
        takenWithin(0, 9, (x, flag) -> x.paint(flag, 0, 0, 0));
        takenWithin(0, 9, (x, flag) -> x.bend(0, flag));
    }

    @Says("Each has a colour at the hoist (the edge at the halyard) and a colour at the fly (the other edge), 0 to 7, and a weight, 0 to 9.")
    static void termsColoursAndWeights() {
        for (int flag = 0; flag < 10; flag++) {
            int painted = flag;
            takenWithin(0, 7, (x, colour) -> x.paint(painted, colour, 7 - Math.floorMod(colour, 8), 9));
            takenWithin(0, 7, (x, colour) -> x.paint(painted, Math.floorMod(colour, 8), colour, 0));
            takenWithin(0, 9, (x, weight) -> x.paint(painted, 7, 0, weight));
        }
    }

    @Says("At the beginning the flag k has the colour k modulo 8 at the hoist and the colour (3 * k + 1) modulo 8 at the fly, and the weight k / 2, rounded down.")
    static void termsFlagsAtTheBeginning() {
        MastFlags x = new MastFlags();
        int[] hoist = {0, 1, 2, 3, 4, 5, 6, 7, 0, 1};
        int[] fly = {1, 4, 7, 2, 5, 0, 3, 6, 1, 4};
        int[] weight = {0, 0, 1, 1, 2, 2, 3, 3, 4, 4};
        for (int flag = 0; flag < 10; flag++) {
            due("hoist of " + flag, x.flag(flag, 0), hoist[flag]);
            due("fly of " + flag, x.flag(flag, 1), fly[flag]);
            due("weight of " + flag, x.flag(flag, 2), weight[flag]);
        }
    }

    @Says("There are also 3 pennants, 1 to 3, which have no colours and no weight.")
    static void termsThreePennants() {
        takenWithin(() -> hoisted(0, 4, 5, 6), 1, 3, (x, pennant) -> x.bend(0, PENNANT + pennant));
        MastFlags x = hoisted(0, 0, PENNANT + 1, PENNANT + 2, PENNANT + 3);
        x.setWind(0, 0);
        for (int place = 1; place <= 4; place++) {
            due("it does not droop", x.sign(0, place, 2), 0);
            due("it is known", x.seen(0, 0, place), 0);
        }
        due("a pennant is no flag to paint", x.paint(PENNANT + 1, 0, 0, 0), NO_SUCH);
        due("nor to ask for", x.flag(PENNANT + 1, 0), NO_SUCH);
    }

    @Says("Of each flag and of each pennant there are so many pieces as the setting stock tells.")
    static void termsPiecesAsTheStockTells() {
        for (int stock = 1; stock <= 3; stock++) {
            for (int sign = 0; sign <= PENNANT + 3; sign++) {
                if (sign != PENNANT) {
                    due("stock " + stock + ", sign " + sign, piecesThatCanBeBent(stock, sign), stock);
                }
            }
        }
    }

    /** One more is tried on another halyard; a pennant is bent below three flags. */
    private static int piecesThatCanBeBent(int stock, int sign) {
        MastFlags x = new MastFlags();
        x.setStock(stock);
        int pieces = 0;
        for (int halyard = 0; halyard <= stock; halyard++) {
            if (sign > PENNANT) {
                bendAll(x, halyard, 3 * halyard % 10, (3 * halyard + 1) % 10, (3 * halyard + 2) % 10);
            }
            pieces += x.bend(halyard, sign) > 0 ? 1 : 0;
        }
        return pieces;
    }

    // ---- mast

    @Says("The mast has 5 halyards, 0 to 4, from left to right as seen from the front.")
    static void termsFiveHalyards() {
        takenWithin(0, 4, (x, halyard) -> x.bend(halyard, 9));
        MastFlags x = known(5);
        for (int halyard = 0; halyard < 5; halyard++) {
            due("the front's word " + halyard, x.word(0, halyard), 50 + halyard);
        }
    }

    /** The halyard k tells the word 50 + k by a flag of one colour, on so many halyards. */
    private static MastFlags known(int halyards) {
        MastFlags x = new MastFlags();
        for (int halyard = 0; halyard < halyards; halyard++) {
            x.paint(halyard, halyard, halyard, 0);
            x.enter(10 + halyard, 50 + halyard);
            x.bend(halyard, halyard);
        }
        return x;
    }

    @Says("On each there is a hoist of 0 to 4 signs, told from the top; a sign is a flag or a pennant.")
    static void termsHoistsOfZeroToFourSigns() {
        for (int halyard = 0; halyard < 5; halyard++) {
            MastFlags x = new MastFlags();
            due("0 signs", x.sign(halyard, 1, 0), NO_SUCH);
            due("1 sign", x.bend(halyard, 9), 1);
            due("2 signs", x.bend(halyard, PENNANT + 1), 2);
            due("3 signs", x.bend(halyard, 8), 3);
            due("4 signs", x.bend(halyard, PENNANT + 3), 4);
            due("5 signs", x.bend(halyard, 7), LIMIT);
            int[] signs = {9, PENNANT + 1, 8, PENNANT + 3};
            for (int place = 1; place <= 4; place++) {
                due("from the top", x.sign(halyard, place, 0), signs[place - 1]);
            }
        }
    }

    @Says("The pennant p repeats the sign at the place p of the same hoist (1 for the uppermost one), which must be above it; if that is a pennant, too, it repeats what that one repeats.")
    static void termsPennantsRepeat() {
        for (int pennant = 1; pennant <= 3; pennant++) {
            MastFlags x = hoisted(0, 9, 8, 7, PENNANT + pennant);
            due("pennant " + pennant, x.sign(0, 4, 1), 10 - pennant);
        }
        MastFlags first = hoisted(2, 9, 8, PENNANT + 1, PENNANT + 3);
        due("the third repeats the first", first.sign(2, 4, 1), 9);
        MastFlags second = hoisted(2, 9, 8, PENNANT + 2, PENNANT + 3);
        due("the third repeats the second", second.sign(2, 4, 1), 8);
        MastFlags chain = hoisted(2, 9, PENNANT + 1, PENNANT + 2, PENNANT + 3);
        due("over three pennants", chain.sign(2, 4, 1), 9);
        MastFlags twice = hoisted(2, 9, PENNANT + 1, PENNANT + 1, PENNANT + 2);
        due("one of two", twice.sign(2, 4, 1), 9);
        due("which must be above it: itself", hoisted(0, 9).bend(0, PENNANT + 2), NOT_POSSIBLE);
        due("which must be above it: below", hoisted(0, 9).bend(0, PENNANT + 3), NOT_POSSIBLE);
        due("which must be above it: none", new MastFlags().bend(0, PENNANT + 1), NOT_POSSIBLE);
    }

    /** Every hoist that can be: each sign stands for a flag of those above it or for itself. */
    @Says("So each sign stands for a flag.")
    static void termsEachSignStandsForAFlag() {
        int[] kinds = {4, 5, PENNANT + 1, PENNANT + 2, PENNANT + 3};
        for (int hoist = 0; hoist < 625; hoist++) {
            MastFlags x = new MastFlags();
            x.setStock(3);
            int[] flags = new int[4];
            int size = 0;
            for (int rest = hoist, step = 0; step < 4; step++, rest /= 5) {
                int sign = kinds[rest % 5];
                if (x.bend(3, sign) > 0) {
                    flags[size] = sign > PENNANT ? flags[sign - PENNANT - 1] : sign;
                    size++;
                    due("hoist " + hoist + ", place " + size, x.sign(3, size, 1), flags[size - 1]);
                }
            }
        }
    }

    // ---- wind

    @Says("The wind has a strength, 0 to 9 (5 at the beginning), and comes from the left (0, at the beginning) or from the right (1), as seen from the front.")
    static void termsWind() {
        due("strength at the beginning", new MastFlags().total(0), 5);
        due("from the left at the beginning", new MastFlags().total(1), 0);
        takenWithin(0, 9, (x, strength) -> x.setWind(strength, 0));
        takenWithin(0, 1, (x, from) -> x.setWind(0, from));
    }

    @Says("A flag droops if its weight is greater than the strength.")
    static void termsFlagsDroop() {
        for (int weight = 0; weight <= 9; weight++) {
            for (int strength = 0; strength <= 9; strength++) {
                MastFlags x = hoisted(0, 5);
                x.paint(5, 6, 6, weight);
                x.setWind(strength, 0);
                boolean droops = weight > strength;
                due("weight " + weight + ", strength " + strength, x.sign(0, 1, 2), droops ? 1 : 0);
                due("front", x.seen(0, 0, 1), droops ? NONE : 5);
                due("behind", x.seen(1, 0, 1), droops ? NONE : 5);
            }
        }
    }

    // ---- reading

    @Says({"A reader looks from the front (side 0) or from behind (side 1).", "Flags fly away from where the wind comes from.",
        "A flag that does not droop shows its two colours to the reader, from left to right: for the front with the wind from the left, and for behind with the wind from the right, first the colour at the hoist, then that at the fly; in the other two cases first the colour at the fly."})
    static void termsColoursFromLeftToRight() {
        MastFlags x = hoisted(0, 3);
        x.paint(9, 2, 3, 0);
        due("front, wind from the left", x.seen(0, 0, 1), 3);
        due("behind, wind from the left", x.seen(1, 0, 1), 9);
        x.setWind(1, 1);
        due("front, wind from the right", x.seen(0, 0, 1), 9);
        due("behind, wind from the right", x.seen(1, 0, 1), 3);
    }

    @Says("Who looks from behind sees the halyards the other way round: the halyard 4 first, then 3, and so on.")
    static void termsFromBehindTheOtherWayRound() {
        MastFlags x = known(5);
        for (int word = 0; word < 5; word++) {
            due("word " + word, x.word(1, word), 54 - word);
        }
        x.setWind(5, 1);
        for (int word = 0; word < 5; word++) {
            due("whatever the wind, word " + word, x.word(1, word), 54 - word);
        }
    }

    @Says("The reader takes it for the flag with the lowest number that has the first colour at the hoist and the second one at the fly")
    static void termsLowestNumber() {
        MastFlags x = hoisted(0, 9);
        due("9 is like 1", x.seen(0, 0, 1), 1);
        x.paint(1, 0, 0, 0);
        due("9 alone", x.seen(0, 0, 1), 9);
        for (int flag = 8; flag >= 0; flag--) {
            x.paint(flag, 1, 4, 9);
            due("a lower one, though it would droop", x.seen(0, 0, 1), flag);
        }
        x.paint(0, 4, 1, 0);
        due("the mirror does not count", x.seen(0, 0, 1), 1);
        due("but for the other side", x.seen(1, 0, 1), 0);
    }

    @Says("if there is none, or if the flag droops, the reader does not know it")
    static void termsNotKnown() {
        MastFlags x = hoisted(0, 9);
        due("there is none from behind", x.seen(1, 0, 1), NONE);
        x.setWind(4, 0);
        due("as heavy as the wind", x.seen(0, 0, 1), 1);
        x.setWind(3, 0);
        due("it droops, though 1 would not", x.seen(0, 0, 1), NONE);
    }

    @Says("The reader takes a pennant for what the reader takes the sign for that it repeats; it is not known if that one is not.")
    static void termsPennantsAreTakenFor() {
        MastFlags x = hoisted(0, 3, PENNANT + 1, PENNANT + 2);
        x.paint(9, 2, 3, 0);
        for (int place = 1; place <= 3; place++) {
            due("front", x.seen(0, 0, place), 3);
            due("behind", x.seen(1, 0, place), 9);
        }
        x.setWind(0, 0);
        for (int place = 1; place <= 3; place++) {
            due("it droops", x.seen(0, 0, place), NONE);
        }
        MastFlags mixed = hoisted(0, 0, 8, PENNANT + 2, PENNANT + 1);
        mixed.setWind(3, 0);
        due("what does not droop", mixed.seen(0, 0, 4), 0);
        due("what droops", mixed.seen(0, 0, 3), NONE);
    }

    @Says("The reader reads a hoist as the word of the first entry of the book whose flags are, in their order, those for which the reader takes the signs of the hoist from the top")
    static void termsWordOfTheFirstEntry() {
        MastFlags x = hoisted(0, 8, 5, PENNANT + 1);
        x.enter(1858, 11);
        due("8 is taken for 0", x.word(0, 0), NONE);
        x.enter(1005, 12);
        due("another order", x.word(0, 0), NONE);
        x.enter(105, 13);
        due("the beginning alone", x.word(0, 0), NONE);
        x.enter(10500, 14);
        due("a longer one", x.word(0, 0), NONE);
        x.enter(1050, 15);
        due("the very flags", x.word(0, 0), 15);
        x.enter(1050, 16);
        due("the first of two", x.word(0, 0), 15);
        x.strike(4);
        due("then the second", x.word(0, 0), 16);
    }

    @Says("the word is not known if there is none, or if a sign is not known")
    static void termsWordNotKnown() {
        MastFlags x = hoisted(0, 4, 9);
        due("an empty book", x.word(0, 0), NONE);
        x.enter(141, 0);
        due("the word 0", x.word(0, 0), 0);
        x.setWind(3, 0);
        due("the lower sign droops", x.word(0, 0), NONE);
        x.setWind(4, 1);
        due("from the front no flag is so", x.word(0, 0), NONE);
        due("but from behind", x.word(1, 0), 0);
    }

    @Says("A message is what the reader reads of the hoists that are not empty, in the order in which the reader sees them.")
    static void termsMessage() {
        for (int mask = 0; mask < 32; mask++) {
            MastFlags x = known(5);
            List<Integer> front = new ArrayList<>();
            for (int halyard = 0; halyard < 5; halyard++) {
                if ((mask >> halyard & 1) == 0) {
                    x.unbend(halyard);
                } else {
                    front.add(50 + halyard);
                }
            }
            int size = front.size();
            for (int word = 0; word < size; word++) {
                due("front of " + mask, x.word(0, word), front.get(word));
                due("behind of " + mask, x.word(1, word), front.get(size - 1 - word));
            }
            due("front, no more of " + mask, x.word(0, size), NO_SUCH);
            due("behind, no more of " + mask, x.word(1, size), NO_SUCH);
        }
    }

    // ---- book

    @Says("The book has at most 12 entries, in the order in which they were entered; an entry has 1 to 4 flags and a word, 0 to 99.")
    static void termsBook() {
        MastFlags x = new MastFlags();
        int[] numbers = {19, 10, 100, 199, 1999, 1000, 10000, 19999, 15, 11, 17, 10};
        for (int entry = 0; entry < 12; entry++) {
            due("enter", x.enter(numbers[entry], 99 - entry * 9), entry + 1);
        }
        due("a thirteenth", x.enter(15, 5), LIMIT);
        for (int entry = 0; entry < 12; entry++) {
            due("flags", x.entry(entry, 0), numbers[entry]);
            due("word", x.entry(entry, 1), 99 - entry * 9);
        }
        due("no flag", new MastFlags().enter(1, 5), BAD_VALUE);
        due("five flags", new MastFlags().enter(111111, 5), BAD_VALUE);
        takenWithin(0, 99, (y, word) -> y.enter(15, word));
    }

    // ---- answers

    @Says("The other ship answers with a pennant of its own that is down (0, at the beginning), at the dip (1) or close up (2).")
    static void termsPennantOfTheOtherShip() {
        MastFlags x = known(1);
        due("at the beginning", new MastFlags().total(7), 0);
        due("down", x.total(7), 0);
        x.answer();
        due("at the dip", x.total(7), 1);
        x.answer();
        due("close up", x.total(7), 2);
        x.answer();
        due("no further", x.total(7), 2);
    }

    @Says("It sees the mast from a side, 0 at the beginning.")
    static void termsSideOfTheOtherShip() {
        MastFlags x = known(3);
        due("at the beginning", x.total(6), 0);
        x.answer();
        x.answer();
        x.lower();
        due("from the front", x.logged(0, 1), 50);
        for (int halyard = 0; halyard < 3; halyard++) {
            x.bend(halyard, halyard);
        }
        x.sail(1);
        x.answer();
        x.answer();
        x.lower();
        due("from behind", x.logged(1, 1), 52);
    }

    private static final String BRINGS_DOWN = "Each call that changes a hoist, the wind, a flag, the book or the side "
            + "of the other ship (also if nothing becomes different) brings its pennant down.";

    private static void pennantBehind(String what, ToIntFunction<MastFlags> call, int atTheDip, int closeUp) {
        MastFlags dip = Masts.atTheDip();
        due(what + " fails at the dip", isError(call.applyAsInt(dip)) ? 1 : 0, 0);
        due(what + " at the dip", dip.total(7), atTheDip);
        MastFlags up = Masts.closeUp();
        due(what + " fails close up", isError(call.applyAsInt(up)) ? 1 : 0, 0);
        due(what + " close up", up.total(7), closeUp);
    }

    @Says(BRINGS_DOWN)
    static void termsPennantDownByAHoist() {
        pennantBehind("bend", x -> x.bend(1, 9), 0, 0);
        pennantBehind("unbend", x -> x.unbend(3), 0, 0);
        pennantBehind("exchange", x -> x.exchange(0, 3), 0, 0);
        pennantBehind("exchange of empty ones", x -> x.exchange(1, 2), 0, 0);
        pennantBehind("lower", x -> x.lower(), 0, 0);
        pennantBehind("hoist what is there", x -> {
            Masts.type(x, "0:0,3:1");
            return x.hoist();
        }, 0, 0);
    }

    @Says(BRINGS_DOWN)
    static void termsPennantDownByTheWind() {
        pennantBehind("setWind", x -> x.setWind(9, 1), 0, 0);
        pennantBehind("setWind to the same", x -> x.setWind(5, 0), 0, 0);
    }

    @Says(BRINGS_DOWN)
    static void termsPennantDownByAFlag() {
        pennantBehind("paint", x -> x.paint(9, 0, 0, 0), 0, 0);
        pennantBehind("paint as it is", x -> x.paint(9, 1, 4, 4), 0, 0);
    }

    @Says(BRINGS_DOWN)
    static void termsPennantDownByTheBook() {
        pennantBehind("enter", x -> x.enter(19, 9), 0, 0);
        pennantBehind("enter what is there", x -> x.enter(10, 50), 0, 0);
        pennantBehind("strike", x -> x.strike(2), 0, 0);
    }

    @Says(BRINGS_DOWN)
    static void termsPennantDownByTheSide() {
        pennantBehind("sail", x -> x.sail(1), 0, 0);
        pennantBehind("sail to the same", x -> x.sail(0), 0, 0);
    }

    /** What is not named there leaves the pennant as it is. */
    @Says(BRINGS_DOWN)
    static void termsPennantStays() {
        pennantBehind("setStock", x -> x.setStock(1), 1, 2);
        pennantBehind("setStock to the same", x -> x.setStock(3), 1, 2);
        pennantBehind("save", x -> x.save(), 1, 2);
        pennantBehind("append", x -> x.append('0'), 1, 2);
        pennantBehind("clearText", x -> x.clearText(), 1, 2);
        pennantBehind("errorPosition", x -> x.errorPosition(), 1, 2);
        pennantBehind("known", x -> x.known(1), 1, 2);
        pennantBehind("isSame", x -> x.isSame(), 1, 2);
        pennantBehind("leastWind", x -> x.leastWind(0), 1, 2);
        pennantBehind("ifTurned", x -> x.ifTurned(1), 1, 2);
        pennantBehind("mendingExchange", x -> x.mendingExchange(), 1, 2);
        pennantBehind("bestEntry", x -> x.bestEntry(50), 1, 2);
        pennantBehind("undo", x -> x.undo(), 0, 1);
        pennantBehind("a refused call", x -> x.sail(2) == BAD_VALUE ? 0 : BAD_VALUE, 1, 2);
    }

    @Says("To lower all hoists is to make them empty and to bring the pennant of the other ship down")
    static void termsToLower() {
        for (Supplier<MastFlags> make : List.<Supplier<MastFlags>>of(
                MastFlags::new, Masts::signalling, Masts::full, Masts::closeUp, Masts::brimful)) {
            MastFlags x = make.get();
            x.lower();
            due("signs", x.total(3), 0);
            due("hoists", x.total(4), 0);
            due("pennant", x.total(7), 0);
        }
    }

    @Says("if it was close up, the message that the other ship read is logged before")
    static void termsLoggedIfCloseUp() {
        for (int pennant = 0; pennant <= 2; pennant++) {
            for (int side = 0; side <= 1; side++) {
                MastFlags x = known(3);
                x.sail(side);
                for (int answers = 0; answers < pennant; answers++) {
                    x.answer();
                }
                due("pennant " + pennant, x.lower(), pennant == 2 ? 3 : 0);
                due("in the log", x.total(8), pennant == 2 ? 1 : 0);
                for (int part = 1; part <= 3; part++) {
                    int word = side == 0 ? 49 + part : 53 - part;
                    due("side " + side + ", word " + part, x.logged(0, part), pennant == 2 ? word : NO_SUCH);
                }
            }
        }
    }

    /** Logs a message of this word alone. */
    private static void tell(MastFlags x, int word) {
        while (x.total(5) > 0) {
            x.strike(0);
        }
        x.enter(10, word);
        x.bend(0, 0);
        x.answer();
        x.answer();
        due("lower", x.lower(), 1);
    }

    @Says("The log has the latest 8 messages")
    static void termsLatestEightMessages() {
        MastFlags x = new MastFlags();
        for (int message = 0; message < 20; message++) {
            tell(x, message);
            int kept = Math.min(message + 1, 8);
            due("in the log", x.total(8), kept);
            due("the oldest", x.logged(0, 1), Math.max(message - 7, 0));
            due("the latest", x.logged(kept - 1, 1), message);
            due("no more", x.logged(kept, 1), NO_SUCH);
        }
    }

    @Says("a message has its words, 1 to 5")
    static void termsMessagesOfOneToFiveWords() {
        for (int words = 1; words <= 5; words++) {
            MastFlags x = known(words);
            x.answer();
            x.answer();
            x.lower();
            due("so many", x.logged(0, 0), words);
            for (int part = 1; part <= 5; part++) {
                due("word " + part + " of " + words, x.logged(0, part), part <= words ? 49 + part : NO_SUCH);
            }
        }
    }

    // ---- texts

    @Says("A buffer of at most 50 characters holds hoists:")
    static void termsFiftyCharacters() {
        MastFlags x = typed(textOf(49));
        due("the longest text", x.errorPosition(), NONE);
        due("the 50th", x.append('5'), 50);
        due("a 51st", x.append('5'), LIMIT);
        due("50", x.clearText(), 50);
    }

    private static void position(String text, int want) {
        due("errorPosition() of " + text, typed(text).errorPosition(), want);
    }

    @Says("text = hoist { \",\" hoist }")
    static void termsTextOfHoists() {
        position("0:1", NONE);
        position("0:1,1:2", NONE);
        position("0:1,1:2,2:3,3:4,4:5", NONE);
        position("", 0);
        position(",", 0);
        position("0:1,", 4);
        position("0:1,,", 4);
        position("0:1;1:2", 3);
        position("0:11:2", 4);
    }

    @Says("hoist = halyard \":\" sign [ sign ] [ sign ] [ sign ]")
    static void termsHoistOfOneToFourSigns() {
        position("0", 1);
        position("0:", 2);
        position("01", 1);
        position("0::", 2);
        position("0:,", 2);
        position("0:5", NONE);
        position("0:56", NONE);
        position("0:567", NONE);
        position("0:5678", NONE);
        position("0:56789", 6);
        position("0:5678,1:5678", NONE);
        position("0:5678,1:56789", 13);
        position("0:5r1r1r1", NONE);
        position("0:5r1r1r1r", 9);
    }

    @Says("sign = flag | \"r\" pennant")
    static void termsSignOfFlagOrPennant() {
        position("0:5r1", NONE);
        position("0:5r", 4);
        position("0:5R1", 3);
        position("0:51", NONE);
        position("0:5p1", 3);
        position("0:5rr", 4);
        position("0:5r:", 4);
    }

    @Says("A halyard is a digit from 0 to 4, and greater than that of the hoist before")
    static void termsHalyardsOfATextAscend() {
        for (int code = 33; code <= 126; code++) {
            char sign = (char) code;
            position(sign + ":5", sign >= '0' && sign <= '4' ? NONE : 0);
            for (char before = '0'; before <= '3'; before++) {
                position(before + ":5," + sign + ":5", sign > before && sign <= '4' ? NONE : 4);
            }
        }
        position("4:5,", 3);
        position("0:5,2:5,1:5", 8);
        position("0:5,2:5,2:5", 8);
    }

    @Says("a flag is a digit from 0 to 9")
    static void termsFlagsOfAText() {
        for (int code = 33; code <= 126; code++) {
            char sign = (char) code;
            boolean isFlag = sign >= '0' && sign <= '9';
            position("2:" + sign, isFlag ? NONE : 2);
            if (sign != ',' && sign != 'r') {
                position("2:5" + sign, isFlag ? NONE : 3);
                position("2:567" + sign, isFlag ? NONE : 5);
            }
        }
    }

    @Says("a pennant is a digit from 1 to 3, and not greater than the number of the signs above it in this hoist")
    static void termsPennantsOfAText() {
        String[] above = {"", "5", "56", "567", "5r1", "5r1r2"};
        int[] signs = {0, 1, 2, 3, 2, 3};
        for (int index = 0; index < above.length; index++) {
            for (int code = 33; code <= 126; code++) {
                char pennant = (char) code;
                String text = "0:5678,3:" + above[index] + "r" + pennant;
                boolean isRight = pennant >= '1' && pennant <= '0' + signs[index];
                position(text, isRight ? NONE : text.length() - (signs[index] == 0 ? 2 : 1));
            }
        }
    }

    /** The 31 choices of halyards in their order, as one pattern. */
    private static Pattern textPattern() {
        String hoist = ":[0-9](?:(?:[0-9]|r1)(?:(?:[0-9]|r[12])(?:[0-9]|r[123])?)?)?";
        List<String> texts = new ArrayList<>();
        for (int choice = 1; choice < 32; choice++) {
            List<String> hoists = new ArrayList<>();
            for (int halyard = 0; halyard < 5; halyard++) {
                if ((choice >> halyard & 1) == 1) {
                    hoists.add("[" + halyard + "]" + hoist);
                }
            }
            texts.add(String.join("[,]", hoists));
        }
        return Pattern.compile(String.join("|", texts));
    }

    /** Each character behind each beginning of some texts, against a pattern that tells what can go on. */
    @Says("A character of the buffer is an error if no text begins with the characters ahead of it and this character.")
    static void termsCharactersThatAreErrors() {
        Pattern pattern = textPattern();
        String[] texts = {"0:0r1r2r3,1:1r1r2r3,2:2r1r2r3,3:3r1r2r3,4:4r1r2r3", "0:56r2r1,2:9,3:78", "1:r", "0:12345",
            "4:0000", "3:1r1,4:2r1", "2:567r3,4:01", "0:1,2:3,1", "1:2r"};
        for (String text : texts) {
            for (int length = 0; length < text.length(); length++) {
                for (int code = 33; code <= 126; code++) {
                    String asked = text.substring(0, length) + (char) code;
                    int want = firstError(pattern, asked);
                    position(asked, want < asked.length() ? want : pattern.matcher(asked).matches() ? NONE : want);
                }
            }
        }
    }

    private static int firstError(Pattern pattern, String text) {
        for (int length = 1; length <= text.length(); length++) {
            Matcher matcher = pattern.matcher(text.substring(0, length));
            if (!matcher.matches() && !matcher.hitEnd()) {
                return length - 1;
            }
        }
        return text.length();
    }

    // ---- undo

    private static Map<String, ToIntFunction<MastFlags>> undoableCalls() {
        Map<String, ToIntFunction<MastFlags>> calls = new LinkedHashMap<>();
        calls.put("paint", x -> x.paint(9, 1, 4, 4));
        calls.put("setStock", x -> x.setStock(3));
        calls.put("setWind", x -> x.setWind(5, 0));
        calls.put("bend", x -> x.bend(1, 9));
        calls.put("unbend", x -> x.unbend(3));
        calls.put("exchange", x -> x.exchange(1, 2));
        calls.put("lower", x -> x.lower());
        calls.put("enter", x -> x.enter(19, 9));
        calls.put("strike", x -> x.strike(2));
        calls.put("sail", x -> x.sail(0));
        calls.put("hoist", x -> x.hoist());
        calls.put("restore", x -> x.restore());
        return calls;
    }

    /** Two known words at the dip, a text and a saved state; so many states are recorded. */
    private static MastFlags readyForAll() {
        MastFlags x = Masts.atTheDip();
        Masts.type(x, "0:0,3:1");
        x.save();
        recordedBy(x);
        x.restore();
        return x;
    }

    @Says("The methods that are marked \"Undoable.\" record the state that was current ahead of the call, if they return no error code (also if the call makes no difference).")
    static void termsUndoableCallsRecord() {
        Map<String, ToIntFunction<MastFlags>> calls = undoableCalls();
        calls.put("answer", x -> x.answer());
        for (Map.Entry<String, ToIntFunction<MastFlags>> call : calls.entrySet()) {
            due("ahead of " + call.getKey(), recordedBy(readyForAll()), 1);
            undoable(call.getKey(), TermsBoundsTest::readyForAll, call.getValue());
        }
    }

    @Says("The methods that are marked \"Undoable.\" record the state that was current ahead of the call, if they return no error code (also if the call makes no difference).")
    static void termsOtherCallsRecordNothing() {
        Supplier<MastFlags> make = TermsBoundsTest::readyForAll;
        recordsNothing("flag", make, x -> x.flag(0, 0));
        recordsNothing("sign", make, x -> x.sign(0, 1, 0));
        recordsNothing("entry", make, x -> x.entry(0, 0));
        recordsNothing("seen", make, x -> x.seen(0, 0, 1));
        recordsNothing("word", make, x -> x.word(0, 0));
        recordsNothing("known", make, x -> x.known(0));
        recordsNothing("isSame", make, x -> x.isSame());
        recordsNothing("logged", make, x -> x.logged(0, 0));
        recordsNothing("total", make, x -> x.total(0));
        recordsNothing("leastWind", make, x -> x.leastWind(0));
        recordsNothing("ifTurned", make, x -> x.ifTurned(0));
        recordsNothing("mendingExchange", make, x -> x.mendingExchange());
        recordsNothing("bestEntry", make, x -> x.bestEntry(50));
        recordsNothing("append", make, x -> x.append('0'));
        recordsNothing("clearText", make, x -> x.clearText());
        recordsNothing("errorPosition", make, x -> x.errorPosition());
        recordsNothing("save", make, x -> x.save());
    }

    @Says("The methods that are marked \"Undoable.\" record the state that was current ahead of the call, if they return no error code (also if the call makes no difference).")
    static void termsRefusedCallsRecordNothing() {
        Supplier<MastFlags> make = TermsBoundsTest::readyForAll;
        recordsNothing("paint", make, x -> x.paint(0, 0, 0, 10));
        recordsNothing("setStock", make, x -> x.setStock(0));
        recordsNothing("setWind", make, x -> x.setWind(0, 2));
        recordsNothing("bend", make, x -> x.bend(1, PENNANT + 1));
        recordsNothing("unbend", make, x -> x.unbend(1));
        recordsNothing("exchange", make, x -> x.exchange(1, 1));
        recordsNothing("enter", make, x -> x.enter(1, 1));
        recordsNothing("strike", make, x -> x.strike(3));
        recordsNothing("sail", make, x -> x.sail(-1));
        recordsNothing("answer", Masts::closeUp, x -> x.answer());
        recordsNothing("hoist", Masts::full, x -> x.hoist());
        recordsNothing("restore", Masts::closeUp, x -> x.restore());
    }

    @Says("At most 5 states are kept; when a sixth one is recorded, the oldest one is discarded.")
    static void termsFiveStatesAreKept() {
        for (int calls = 0; calls <= 17; calls++) {
            MastFlags x = new MastFlags();
            for (int call = 1; call <= calls; call++) {
                x.enter(15, 5);
                x.strike(0);
                x.sail(call % 2);
            }
            due("of " + 3 * calls, recordedBy(x), Math.min(3 * calls, 5));
        }
        MastFlags x = new MastFlags();
        for (int strength = 0; strength < 6; strength++) {
            x.setWind(strength, 0);
        }
        for (int strength = 4; strength >= 0; strength--) {
            x.undo();
            due("the state", x.total(0), strength);
        }
        due("the oldest one is discarded", x.undo(), NOT_POSSIBLE);
        due("it stays", x.total(0), 0);
    }

    /** Five recorded states of each kind of call, at each place where the states may begin. */
    @Says("At most 5 states are kept; when a sixth one is recorded, the oldest one is discarded.")
    static void termsTheStatesOfEachCallAreKept() {
        for (Map.Entry<String, ToIntFunction<MastFlags>> call : undoableCalls().entrySet()) {
            for (int ahead = 0; ahead <= 5; ahead++) {
                int winds = ahead;
                Supplier<MastFlags> make = () -> {
                    MastFlags x = Masts.atTheDip();
                    Masts.type(x, "0:0,3:1");
                    x.save();
                    for (int wind = 0; wind < winds; wind++) {
                        x.setWind(9 - wind, 1);
                    }
                    return x;
                };
                undoable(call.getKey() + " behind " + ahead, make, call.getValue());
            }
        }
    }

    @Says("The state is everything except the buffer, the saved state of save() and the recorded states.")
    static void termsTheStateIsEverything() {
        MastFlags x = Masts.full();
        String before = Snapshot.ofState(x);
        x.lower();
        x.setStock(1);
        x.paint(0, 7, 6, 9);
        x.setWind(0, 1);
        x.sail(1);
        for (int step = 0; step < 5; step++) {
            x.undo();
        }
        same("undone", Snapshot.ofState(x), before);
        MastFlags logged = Masts.closeUp();
        logged.lower();
        logged.undo();
        due("the log", logged.total(8), 0);
        due("all messages", logged.total(9), 0);
        due("the pennant", logged.total(7), 2);
        due("the same message once more", logged.lower(), 2);
    }

    @Says("The state is everything except the buffer, the saved state of save() and the recorded states.")
    static void termsTheStateIsNotTheBuffer() {
        MastFlags x = hoisted(0, 5);
        x.save();
        Masts.type(x, "0:1");
        x.restore();
        due("restore() leaves it", x.errorPosition(), NONE);
        x.undo();
        due("undo() leaves it", x.errorPosition(), NONE);
        x.hoist();
        x.undo();
        due("undo() of hoist() does not fill it", x.clearText(), 0);
    }

    @Says("The state is everything except the buffer, the saved state of save() and the recorded states.")
    static void termsTheStateIsNotWhatIsSavedOrRecorded() {
        MastFlags x = hoisted(0, 5);
        x.lower();
        x.save();
        x.undo();
        due("undo() leaves the saved state", x.restore(), 0);
        MastFlags recorded = hoisted(0, 5);
        recorded.save();
        recorded.sail(1);
        recorded.sail(1);
        recorded.restore();
        due("restore() leaves the recorded states", recorded.undo(), 4);
        due("and adds one", recorded.total(6), 1);
    }

    @Says("It tells what each side reads, whether both read the same, which wind is needed, and reads hoists from texts.")
    static void termsWhatItTells() {
        MastFlags x = typed("1:0,3:0");
        x.setStock(2);
        x.paint(0, 5, 5, 7);
        x.enter(10, 42);
        x.hoist();
        x.setWind(8, 0);
        due("the front", x.word(0, 1), 42);
        due("behind", x.word(1, 1), 42);
        due("the same", x.isSame(), 1);
        due("the wind that is needed", x.leastWind(1), 7);
    }

    @Says("---- predictions; they change nothing.")
    static void termsPredictionsChangeNothing() {
        for (Supplier<MastFlags> make : List.<Supplier<MastFlags>>of(
                MastFlags::new, Masts::signalling, Masts::full, Masts::closeUp, Masts::brimful)) {
            for (int side = 0; side <= 1; side++) {
                int reader = side;
                tells("leastWind", make, x -> x.leastWind(reader), make.get().leastWind(side));
                tells("ifTurned", make, x -> x.ifTurned(reader), make.get().ifTurned(side));
            }
            tells("mendingExchange", make, x -> x.mendingExchange(), make.get().mendingExchange());
            tells("bestEntry", make, x -> x.bestEntry(50), make.get().bestEntry(50));
        }
    }
}
