import java.util.function.Supplier;

/** The sentences of promises 18 to 21: sail, answer, logged, total. */
public final class AnswersBoundsTest extends Bounds {
    public static void main(String[] args) {
        run(AnswersBoundsTest.class);
    }

    // ---- promise 18: sail

    @Says("Lets the other ship go to a side.")
    static void promise18GoesToASide() {
        MastFlags x = new MastFlags();
        for (int side : new int[] {1, 1, 0, 0, 1}) {
            x.sail(side);
            due("total(6)", x.total(6), side);
        }
    }

    @Says("Undoable.")
    static void promise18Undoable() {
        undoable("to the other side", MastFlags::new, x -> x.sail(1));
        undoable("to the same side", MastFlags::new, x -> x.sail(0));
        undoable("to the same side, close up", Masts::closeUp, x -> x.sail(0));
        undoable("brimful", Masts::brimful, x -> x.sail(0));
    }

    @Says("`side`: 0 or 1")
    static void promise18SidesZeroAndOne() {
        takenWithin(0, 1, MastFlags::sail);
    }

    @Says("Returns the previous side")
    static void promise18ReturnsThePreviousSide() {
        MastFlags x = new MastFlags();
        due("the first", x.sail(1), 0);
        due("the same", x.sail(1), 1);
        due("back", x.sail(0), 1);
        due("the same again", x.sail(0), 0);
    }

    @Says("BAD_VALUE if side is out of range")
    static void promise18BadValue() {
        refusedOutside(0, 1, MastFlags::sail, BAD_VALUE);
    }

    // ---- promise 19: answer

    /** The front knows the word, from behind it is not known. */
    private static MastFlags oneSided(int side, int from) {
        MastFlags x = new MastFlags();
        x.enter(13, 1);
        x.setWind(5, from);
        x.sail(side);
        x.bend(4, 3);
        return x;
    }

    private static Supplier<MastFlags> answered(Supplier<MastFlags> make) {
        return Snapshot.behind(make, x -> x.answer());
    }

    @Says({"Lets the other ship answer.", "Returns how its pennant is then: 1 (at the dip) if there is a hoist "
            + "that is not empty"})
    static void promise19AtTheDip() {
        for (int halyard = 0; halyard < 5; halyard++) {
            MastFlags x = hoisted(halyard, 9);
            due("one sign that is not known", x.answer(), 1);
            due("total(7)", x.total(7), 1);
        }
        due("a known word", oneSided(0, 0).answer(), 1);
        MastFlags again = Masts.closeUp();
        again.sail(0);
        due("brought down, then again", again.answer(), 1);
    }

    @Says("2 (close up) if it was at the dip and the other ship knows all words of the message")
    static void promise19CloseUp() {
        due("front, from the left", answered(() -> oneSided(0, 0)).get().answer(), 2);
        due("behind, from the right", answered(() -> oneSided(1, 1)).get().answer(), 2);
        MastFlags x = Masts.withBook();
        for (int halyard = 0; halyard < 5; halyard++) {
            x.bend(halyard, halyard % 3);
        }
        x.answer();
        due("five words", x.answer(), 2);
        due("total(7)", x.total(7), 2);
    }

    @Says("Undoable.")
    static void promise19Undoable() {
        undoable("to the dip", Masts::signalling, x -> x.answer());
        undoable("close up", Masts::atTheDip, x -> x.answer());
        undoable("close up as before", Snapshot.behind(Masts::brimful, x -> x.undo()), x -> x.answer());
    }

    @Says("NOT_POSSIBLE if all hoists are empty")
    static void promise19NotPossibleWithoutHoists() {
        refused("a new object", MastFlags::new, x -> x.answer(), NOT_POSSIBLE);
        refused("lowered", Snapshot.behind(Masts::full, y -> y.lower()), x -> x.answer(), NOT_POSSIBLE);
        refused("unbent", Snapshot.behind(() -> oneSided(0, 0), y -> y.unbend(4)), x -> x.answer(), NOT_POSSIBLE);
    }

    @Says("if the pennant is close up")
    static void promise19NotPossibleCloseUp() {
        refused("two words", Masts::closeUp, x -> x.answer(), NOT_POSSIBLE);
        refused("brimful", Masts::brimful, x -> x.answer(), NOT_POSSIBLE);
        refused("behind setStock", Snapshot.behind(Masts::closeUp, y -> y.setStock(1)), x -> x.answer(), NOT_POSSIBLE);
    }

    @Says("or if it is at the dip and a word is not known")
    static void promise19NotPossibleWithoutAWord() {
        refused("full", Masts::full, x -> x.answer(), NOT_POSSIBLE);
        refused("behind, from the left", answered(() -> oneSided(1, 0)), x -> x.answer(), NOT_POSSIBLE);
        refused("front, from the right", answered(() -> oneSided(0, 1)), x -> x.answer(), NOT_POSSIBLE);
        refused("an empty book", answered(() -> hoisted(0, 5)), x -> x.answer(), NOT_POSSIBLE);
        for (int halyard = 0; halyard < 5; halyard++) {
            int unknown = halyard;
            refused("one of five", answered(() -> fiveBut(unknown)), x -> x.answer(), NOT_POSSIBLE);
        }
    }

    /** Five words, of which one is not known. */
    private static MastFlags fiveBut(int unknown) {
        MastFlags x = Masts.withBook();
        for (int halyard = 0; halyard < 5; halyard++) {
            x.bend(halyard, halyard == unknown ? 9 : halyard % 3);
        }
        return x;
    }

    // ---- promise 20: logged

    /** Logs a message of so many words on the halyards from the left; the first one is 50 + turn % 3. */
    private static void tell(MastFlags x, int words, int turn) {
        for (int halyard = 0; halyard < words; halyard++) {
            taken("bend", x.bend(halyard, (halyard + turn) % 3));
        }
        taken("answer", x.answer());
        taken("answer", x.answer());
        due("lower", x.lower(), words);
    }

    /** So many messages; the message k has k % 5 + 1 words from 50 + k % 3 on. */
    private static MastFlags told(int messages) {
        MastFlags x = Masts.withBook();
        for (int message = 0; message < messages; message++) {
            tell(x, message % 5 + 1, message);
        }
        return x;
    }

    @Says({"Returns something about a message of the log.", "`message`: 0 for the oldest one"})
    static void promise20FromTheOldestToTheLatest() {
        for (int messages = 1; messages <= 18; messages++) {
            MastFlags x = told(messages);
            int kept = Math.min(messages, 8);
            for (int at = 0; at < kept; at++) {
                int message = messages - kept + at;
                due("length of " + message + " of " + messages, x.logged(at, 0), message % 5 + 1);
                due("first of " + message + " of " + messages, x.logged(at, 1), 50 + message % 3);
                due("last of " + message + " of " + messages, x.logged(at, message % 5 + 1),
                        50 + (message + message % 5) % 3);
            }
            due("no more than " + kept, x.logged(kept, 0), NO_SUCH);
        }
    }

    @Says({"`part`: 0 for the number of its words", "Returns the number"})
    static void promise20PartZero() {
        for (int message = 0; message < 5; message++) {
            int asked = message;
            tells("words of " + message, () -> told(5), x -> x.logged(asked, 0), message + 1);
        }
    }

    @Says("1 to 5 for its words in their order")
    static void promise20WordsInTheirOrder() {
        MastFlags x = told(5);
        for (int part = 1; part <= 5; part++) {
            due("word " + part, x.logged(4, part), 50 + (part + 3) % 3);
        }
        MastFlags behind = Masts.withBook();
        behind.sail(1);
        tell(behind, 3, 0);
        for (int part = 1; part <= 3; part++) {
            due("read from behind, word " + part, behind.logged(0, part), 53 - part);
        }
        for (int word : new int[] {0, 99}) {
            MastFlags edge = hoisted(0, 5);
            edge.enter(15, word);
            edge.answer();
            edge.answer();
            edge.lower();
            due("the word " + word, edge.logged(0, 1), word);
        }
    }

    /** A message that pushes the oldest one out is undone, and another one takes its place. */
    @Says("`message`: 0 for the oldest one")
    static void promise20UndoneMessages() {
        for (int messages = 0; messages <= 10; messages++) {
            int ahead = messages;
            MastFlags x = told(messages);
            tell(x, 1, messages + 1);
            for (int calls = 0; calls < 4; calls++) {
                x.undo();
            }
            same("undone behind " + messages, Snapshot.ofState(x), Snapshot.ofState(told(ahead)));
            tell(x, messages % 5 + 1, messages);
            same("another one behind " + messages, Snapshot.ofState(x), Snapshot.ofState(told(ahead + 1)));
        }
    }

    @Says("NO_SUCH if there is no such message")
    static void promise20NoSuchMessage() {
        refusedOutside(0, 7, (x, message) -> x.logged(message, 0), NO_SUCH);
        for (int messages = 0; messages <= 9; messages++) {
            int behind = Math.min(messages, 8);
            int all = messages;
            refused("behind " + all, () -> told(all), x -> x.logged(behind, 0), NO_SUCH);
            refused("behind " + all + ", a word", () -> told(all), x -> x.logged(behind, 1), NO_SUCH);
        }
        refused("undone", Snapshot.behind(() -> told(1), y -> y.undo()), x -> x.logged(0, 0), NO_SUCH);
    }

    @Says("or if it has not so many words")
    static void promise20NotSoManyWords() {
        for (int message = 0; message < 5; message++) {
            for (int part = message + 2; part <= 5; part++) {
                int asked = message;
                int word = part;
                refused("word " + part + " of message " + message, () -> told(5), x -> x.logged(asked, word), NO_SUCH);
            }
        }
        MastFlags x = told(9);
        due("where a longer one was before", x.logged(3, 5), 52);
        due("where a shorter one is now", x.logged(4, 2), NO_SUCH);
    }

    @Says("BAD_VALUE if part is out of range")
    static void promise20BadValue() {
        for (int part : new int[] {-1, -2, Integer.MIN_VALUE, 6, 7, 256, 65536, Integer.MAX_VALUE}) {
            refused("part " + part + " of 5 words", () -> told(5), x -> x.logged(4, part), BAD_VALUE);
            refused("part " + part + " of 1 word", () -> told(5), x -> x.logged(0, part), BAD_VALUE);
            refused("part " + part + ", brimful", Masts::brimful, x -> x.logged(7, part), BAD_VALUE);
        }
    }

    @Says({"NO_SUCH if there is no such message", "BAD_VALUE if part is out of range"})
    static void promise20NoSuchComesFirst() {
        refusedEverywhere("too large", x -> x.logged(8, 6), NO_SUCH);
        refusedEverywhere("too small", x -> x.logged(-1, -1), NO_SUCH);
        refused("an empty log", MastFlags::new, x -> x.logged(0, 6), NO_SUCH);
    }

    // ---- promise 21: total

    @Says({"Returns a number of the whole.", "`what`: 0 for the strength of the wind"})
    static void promise21Strength() {
        MastFlags x = new MastFlags();
        due("at the beginning", x.total(0), 5);
        x.setWind(0, 0);
        due("the least", x.total(0), 0);
        x.setWind(9, 0);
        due("the greatest", x.total(0), 9);
    }

    @Says("1 for where it comes from")
    static void promise21From() {
        MastFlags x = new MastFlags();
        due("at the beginning", x.total(1), 0);
        x.setWind(5, 1);
        due("the right", x.total(1), 1);
    }

    @Says("2 for the stock")
    static void promise21Stock() {
        MastFlags x = new MastFlags();
        due("at the beginning", x.total(2), 1);
        x.setStock(3);
        due("the greatest", x.total(2), 3);
    }

    @Says("3 for the signs on the mast")
    static void promise21Signs() {
        MastFlags x = new MastFlags();
        x.setStock(3);
        int[] signs = {0, PENNANT + 1, PENNANT + 2, 1};
        int count = 0;
        for (int place = 0; place < 4; place++) {
            for (int halyard = 0; halyard < 5; halyard++) {
                due("signs", x.total(3), count);
                count += x.bend(halyard, halyard < 2 ? signs[place] : 2 * halyard - 2 + place % 2) > 0 ? 1 : 0;
            }
        }
        due("20 signs", x.total(3), 20);
    }

    @Says("4 for the hoists that are not empty")
    static void promise21Hoists() {
        MastFlags x = new MastFlags();
        for (int halyard = 4; halyard >= 0; halyard--) {
            due("hoists", x.total(4), 4 - halyard);
            x.bend(halyard, halyard);
            x.bend(halyard, halyard + 5);
        }
        due("all", x.total(4), 5);
        x.unbend(2);
        due("one sign shorter", x.total(4), 5);
        x.unbend(2);
        due("one is empty", x.total(4), 4);
        x.lower();
        due("none", x.total(4), 0);
    }

    @Says("5 for the entries of the book")
    static void promise21Entries() {
        MastFlags x = new MastFlags();
        for (int entries = 0; entries <= 12; entries++) {
            due("entries", x.total(5), entries);
            x.enter(15, entries);
        }
        due("a thirteenth was refused", x.total(5), 12);
        x.strike(11);
        due("struck", x.total(5), 11);
    }

    @Says("6 for the side of the other ship")
    static void promise21Side() {
        MastFlags x = new MastFlags();
        due("at the beginning", x.total(6), 0);
        x.sail(1);
        due("behind", x.total(6), 1);
    }

    @Says("7 for how its pennant is")
    static void promise21Pennant() {
        due("down", Masts.signalling().total(7), 0);
        due("at the dip", Masts.atTheDip().total(7), 1);
        due("close up", Masts.closeUp().total(7), 2);
    }

    @Says("8 for the messages in the log")
    static void promise21MessagesInTheLog() {
        for (int messages = 0; messages <= 18; messages++) {
            due("of " + messages, told(messages).total(8), Math.min(messages, 8));
        }
    }

    @Says("9 for all messages that were logged so far")
    static void promise21AllMessages() {
        for (int messages = 0; messages <= 18; messages++) {
            due("of " + messages, told(messages).total(9), messages);
        }
    }

    @Says("Returns the number")
    static void promise21ReturnsTheNumber() {
        takenWithin(0, 9, MastFlags::total);
        int[] totals = {7, 1, 3, 5, 2, 12, 1, 2, 8, 9};
        for (int what = 0; what <= 9; what++) {
            int asked = what;
            tells("brimful, total(" + what + ")", Masts::brimful, x -> x.total(asked), totals[what]);
        }
    }

    @Says("BAD_VALUE if what is out of range")
    static void promise21BadValue() {
        refusedOutside(0, 9, MastFlags::total, BAD_VALUE);
    }
}
