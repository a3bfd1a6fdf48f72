import java.util.ArrayList;
import java.util.LinkedHashMap;
import java.util.List;
import java.util.Map;
import java.util.function.Supplier;
import java.util.function.ToIntFunction;
import java.util.regex.Matcher;
import java.util.regex.Pattern;

/** The sentences of the section "Terms" on answers, texts and undo. */
public final class MoreTermsBoundsTest extends Bounds {
    public static void main(String[] args) {
        run(MoreTermsBoundsTest.class);
    }

    // ---- answers

    @Says("The other ship answers with a pennant of its own that is down (0, at the beginning), at the dip (1) "
            + "or close up (2).")
    static void termsPennantOfTheOtherShip() {
        MastFlags x = known(1);
        due("at the beginning", new MastFlags().total(7), 0);
        due("down", x.total(7), 0);
        x.answer();
        due("at the dip", x.total(7), 1);
        x.answer();
        due("close up", x.total(7), 2);
        x.answer();
        due("no further", x.total(7), 2);
    }

    @Says("It sees the mast from a side, 0 at the beginning.")
    static void termsSideOfTheOtherShip() {
        MastFlags x = known(3);
        due("at the beginning", x.total(6), 0);
        x.answer();
        x.answer();
        x.lower();
        due("from the front", x.logged(0, 1), 50);
        for (int halyard = 0; halyard < 3; halyard++) {
            x.bend(halyard, halyard);
        }
        x.sail(1);
        x.answer();
        x.answer();
        x.lower();
        due("from behind", x.logged(1, 1), 52);
    }

    private static final String BRINGS_DOWN = "Each call that changes a hoist, the wind, a flag, the book or the side "
            + "of the other ship (also if nothing becomes different) brings its pennant down.";

    private static void pennantBehind(String what, ToIntFunction<MastFlags> call, int atTheDip, int closeUp) {
        MastFlags dip = Masts.atTheDip();
        due(what + " fails at the dip", isError(call.applyAsInt(dip)) ? 1 : 0, 0);
        due(what + " at the dip", dip.total(7), atTheDip);
        MastFlags up = Masts.closeUp();
        due(what + " fails close up", isError(call.applyAsInt(up)) ? 1 : 0, 0);
        due(what + " close up", up.total(7), closeUp);
    }

    @Says(BRINGS_DOWN)
    static void termsPennantDownByAHoist() {
        pennantBehind("bend", x -> x.bend(1, 9), 0, 0);
        pennantBehind("unbend", x -> x.unbend(3), 0, 0);
        pennantBehind("exchange", x -> x.exchange(0, 3), 0, 0);
        pennantBehind("exchange of empty ones", x -> x.exchange(1, 2), 0, 0);
        pennantBehind("lower", x -> x.lower(), 0, 0);
        pennantBehind("hoist what is there", x -> {
            Masts.type(x, "0:0,3:1");
            return x.hoist();
        }, 0, 0);
    }

    @Says(BRINGS_DOWN)
    static void termsPennantDownByTheWind() {
        pennantBehind("setWind", x -> x.setWind(9, 1), 0, 0);
        pennantBehind("setWind to the same", x -> x.setWind(5, 0), 0, 0);
    }

    @Says(BRINGS_DOWN)
    static void termsPennantDownByAFlag() {
        pennantBehind("paint", x -> x.paint(9, 0, 0, 0), 0, 0);
        pennantBehind("paint as it is", x -> x.paint(9, 1, 4, 4), 0, 0);
    }

    @Says(BRINGS_DOWN)
    static void termsPennantDownByTheBook() {
        pennantBehind("enter", x -> x.enter(19, 9), 0, 0);
        pennantBehind("enter what is there", x -> x.enter(10, 50), 0, 0);
        pennantBehind("strike", x -> x.strike(2), 0, 0);
    }

    @Says(BRINGS_DOWN)
    static void termsPennantDownByTheSide() {
        pennantBehind("sail", x -> x.sail(1), 0, 0);
        pennantBehind("sail to the same", x -> x.sail(0), 0, 0);
    }

    /** What is not named there leaves the pennant as it is. */
    @Says(BRINGS_DOWN)
    static void termsPennantStays() {
        pennantBehind("setStock", x -> x.setStock(1), 1, 2);
        pennantBehind("setStock to the same", x -> x.setStock(3), 1, 2);
        pennantBehind("save", x -> x.save(), 1, 2);
        pennantBehind("append", x -> x.append('0'), 1, 2);
        pennantBehind("clearText", x -> x.clearText(), 1, 2);
        pennantBehind("errorPosition", x -> x.errorPosition(), 1, 2);
        pennantBehind("known", x -> x.known(1), 1, 2);
        pennantBehind("isSame", x -> x.isSame(), 1, 2);
        pennantBehind("leastWind", x -> x.leastWind(0), 1, 2);
        pennantBehind("ifTurned", x -> x.ifTurned(1), 1, 2);
        pennantBehind("mendingExchange", x -> x.mendingExchange(), 1, 2);
        pennantBehind("bestEntry", x -> x.bestEntry(50), 1, 2);
        pennantBehind("undo", x -> x.undo(), 0, 1);
        pennantBehind("a refused call", x -> x.sail(2) == BAD_VALUE ? 0 : BAD_VALUE, 1, 2);
    }

    @Says("To lower all hoists is to make them empty and to bring the pennant of the other ship down")
    static void termsToLower() {
        for (Supplier<MastFlags> make : List.<Supplier<MastFlags>>of(
                MastFlags::new, Masts::signalling, Masts::full, Masts::closeUp, Masts::brimful)) {
            MastFlags x = make.get();
            x.lower();
            due("signs", x.total(3), 0);
            due("hoists", x.total(4), 0);
            due("pennant", x.total(7), 0);
        }
    }

    @Says("if it was close up, the message that the other ship read is logged before")
    static void termsLoggedIfCloseUp() {
        for (int pennant = 0; pennant <= 2; pennant++) {
            for (int side = 0; side <= 1; side++) {
                MastFlags x = known(3);
                x.sail(side);
                for (int answers = 0; answers < pennant; answers++) {
                    x.answer();
                }
                due("pennant " + pennant, x.lower(), pennant == 2 ? 3 : 0);
                due("in the log", x.total(8), pennant == 2 ? 1 : 0);
                for (int part = 1; part <= 3; part++) {
                    int word = side == 0 ? 49 + part : 53 - part;
                    due("side " + side + ", word " + part, x.logged(0, part), pennant == 2 ? word : NO_SUCH);
                }
            }
        }
    }

    /** Logs a message of this word alone. */
    private static void tell(MastFlags x, int word) {
        while (x.total(5) > 0) {
            x.strike(0);
        }
        x.enter(10, word);
        x.bend(0, 0);
        x.answer();
        x.answer();
        due("lower", x.lower(), 1);
    }

    @Says("The log has the latest 8 messages")
    static void termsLatestEightMessages() {
        MastFlags x = new MastFlags();
        for (int message = 0; message < 20; message++) {
            tell(x, message);
            int kept = Math.min(message + 1, 8);
            due("in the log", x.total(8), kept);
            due("the oldest", x.logged(0, 1), Math.max(message - 7, 0));
            due("the latest", x.logged(kept - 1, 1), message);
            due("no more", x.logged(kept, 1), NO_SUCH);
        }
    }

    @Says("a message has its words, 1 to 5")
    static void termsMessagesOfOneToFiveWords() {
        for (int words = 1; words <= 5; words++) {
            MastFlags x = known(words);
            x.answer();
            x.answer();
            x.lower();
            due("so many", x.logged(0, 0), words);
            for (int part = 1; part <= 5; part++) {
                due("word " + part + " of " + words, x.logged(0, part), part <= words ? 49 + part : NO_SUCH);
            }
        }
    }

    // ---- texts

    @Says("A buffer of at most 50 characters holds hoists:")
    static void termsFiftyCharacters() {
        MastFlags x = typed(textOf(49));
        due("the longest text", x.errorPosition(), NONE);
        due("the 50th", x.append('5'), 50);
        due("a 51st", x.append('5'), LIMIT);
        due("50", x.clearText(), 50);
    }

    private static void position(String text, int want) {
        due("errorPosition() of " + text, typed(text).errorPosition(), want);
    }

    @Says("text = hoist { \",\" hoist }")
    static void termsTextOfHoists() {
        position("0:1", NONE);
        position("0:1,1:2", NONE);
        position("0:1,1:2,2:3,3:4,4:5", NONE);
        position("", 0);
        position(",", 0);
        position("0:1,", 4);
        position("0:1,,", 4);
        position("0:1;1:2", 3);
        position("0:11:2", 4);
    }

    @Says("hoist = halyard \":\" sign [ sign ] [ sign ] [ sign ]")
    static void termsHoistOfOneToFourSigns() {
        position("0", 1);
        position("0:", 2);
        position("01", 1);
        position("0::", 2);
        position("0:,", 2);
        position("0:5", NONE);
        position("0:56", NONE);
        position("0:567", NONE);
        position("0:5678", NONE);
        position("0:56789", 6);
        position("0:5678,1:5678", NONE);
        position("0:5678,1:56789", 13);
        position("0:5r1r1r1", NONE);
        position("0:5r1r1r1r", 9);
    }

    @Says("sign = flag | \"r\" pennant")
    static void termsSignOfFlagOrPennant() {
        position("0:5r1", NONE);
        position("0:5r", 4);
        position("0:5R1", 3);
        position("0:51", NONE);
        position("0:5p1", 3);
        position("0:5rr", 4);
        position("0:5r:", 4);
    }

    @Says("A halyard is a digit from 0 to 4, and greater than that of the hoist before")
    static void termsHalyardsOfATextAscend() {
        for (int code = 33; code <= 126; code++) {
            char sign = (char) code;
            position(sign + ":5", sign >= '0' && sign <= '4' ? NONE : 0);
            for (char before = '0'; before <= '3'; before++) {
                position(before + ":5," + sign + ":5", sign > before && sign <= '4' ? NONE : 4);
            }
        }
        position("4:5,", 3);
        position("0:5,2:5,1:5", 8);
        position("0:5,2:5,2:5", 8);
    }

    @Says("a flag is a digit from 0 to 9")
    static void termsFlagsOfAText() {
        for (int code = 33; code <= 126; code++) {
            char sign = (char) code;
            boolean isFlag = sign >= '0' && sign <= '9';
            position("2:" + sign, isFlag ? NONE : 2);
            if (sign != ',' && sign != 'r') {
                position("2:5" + sign, isFlag ? NONE : 3);
                position("2:567" + sign, isFlag ? NONE : 5);
            }
        }
    }

    @Says("a pennant is a digit from 1 to 3, and not greater than the number of the signs above it in this hoist")
    static void termsPennantsOfAText() {
        String[] above = {"", "5", "56", "567", "5r1", "5r1r2"};
        int[] signs = {0, 1, 2, 3, 2, 3};
        for (int index = 0; index < above.length; index++) {
            for (int code = 33; code <= 126; code++) {
                char pennant = (char) code;
                String text = "0:5678,3:" + above[index] + "r" + pennant;
                boolean isRight = pennant >= '1' && pennant <= '0' + signs[index];
                position(text, isRight ? NONE : text.length() - (signs[index] == 0 ? 2 : 1));
            }
        }
    }

    /** The 31 choices of halyards in their order, as one pattern. */
    private static Pattern textPattern() {
        String hoist = ":[0-9](?:(?:[0-9]|r1)(?:(?:[0-9]|r[12])(?:[0-9]|r[123])?)?)?";
        List<String> texts = new ArrayList<>();
        for (int choice = 1; choice < 32; choice++) {
            List<String> hoists = new ArrayList<>();
            for (int halyard = 0; halyard < 5; halyard++) {
                if ((choice >> halyard & 1) == 1) {
                    hoists.add("[" + halyard + "]" + hoist);
                }
            }
            texts.add(String.join("[,]", hoists));
        }
        return Pattern.compile(String.join("|", texts));
    }

    /** Each character behind each beginning of some texts, against a pattern that tells what can go on. */
    @Says("A character of the buffer is an error if no text begins with the characters ahead of it and this character.")
    static void termsCharactersThatAreErrors() {
        Pattern pattern = textPattern();
        String[] texts = {"0:0r1r2r3,1:1r1r2r3,2:2r1r2r3,3:3r1r2r3,4:4r1r2r3", "0:56r2r1,2:9,3:78", "1:r", "0:12345",
            "4:0000", "3:1r1,4:2r1", "2:567r3,4:01", "0:1,2:3,1", "1:2r"};
        for (String text : texts) {
            for (int length = 0; length < text.length(); length++) {
                for (int code = 33; code <= 126; code++) {
                    String asked = text.substring(0, length) + (char) code;
                    int want = firstError(pattern, asked);
                    position(asked, want < asked.length() ? want : pattern.matcher(asked).matches() ? NONE : want);
                }
            }
        }
    }

    private static int firstError(Pattern pattern, String text) {
        for (int length = 1; length <= text.length(); length++) {
            Matcher matcher = pattern.matcher(text.substring(0, length));
            if (!matcher.matches() && !matcher.hitEnd()) {
                return length - 1;
            }
        }
        return text.length();
    }

    // ---- undo

    private static final String RECORDS = "The methods that are marked \"Undoable.\" record the state that was "
            + "current ahead of the call, if they return no error code (also if the call makes no difference).";

    private static Map<String, ToIntFunction<MastFlags>> undoableCalls() {
        Map<String, ToIntFunction<MastFlags>> calls = new LinkedHashMap<>();
        calls.put("paint", x -> x.paint(9, 1, 4, 4));
        calls.put("setStock", x -> x.setStock(3));
        calls.put("setWind", x -> x.setWind(5, 0));
        calls.put("bend", x -> x.bend(1, 9));
        calls.put("unbend", x -> x.unbend(3));
        calls.put("exchange", x -> x.exchange(1, 2));
        calls.put("lower", x -> x.lower());
        calls.put("enter", x -> x.enter(19, 9));
        calls.put("strike", x -> x.strike(2));
        calls.put("sail", x -> x.sail(0));
        calls.put("hoist", x -> x.hoist());
        calls.put("restore", x -> x.restore());
        return calls;
    }

    /** Two known words at the dip, a text and a saved state; so many states are recorded. */
    private static MastFlags readyForAll() {
        MastFlags x = Masts.atTheDip();
        Masts.type(x, "0:0,3:1");
        x.save();
        recordedBy(x);
        x.restore();
        return x;
    }

    @Says(RECORDS)
    static void termsUndoableCallsRecord() {
        Map<String, ToIntFunction<MastFlags>> calls = undoableCalls();
        calls.put("answer", x -> x.answer());
        for (Map.Entry<String, ToIntFunction<MastFlags>> call : calls.entrySet()) {
            due("ahead of " + call.getKey(), recordedBy(readyForAll()), 1);
            undoable(call.getKey(), MoreTermsBoundsTest::readyForAll, call.getValue());
        }
    }

    @Says(RECORDS)
    static void termsOtherCallsRecordNothing() {
        Supplier<MastFlags> make = MoreTermsBoundsTest::readyForAll;
        recordsNothing("flag", make, x -> x.flag(0, 0));
        recordsNothing("sign", make, x -> x.sign(0, 1, 0));
        recordsNothing("entry", make, x -> x.entry(0, 0));
        recordsNothing("seen", make, x -> x.seen(0, 0, 1));
        recordsNothing("word", make, x -> x.word(0, 0));
        recordsNothing("known", make, x -> x.known(0));
        recordsNothing("isSame", make, x -> x.isSame());
        recordsNothing("logged", make, x -> x.logged(0, 0));
        recordsNothing("total", make, x -> x.total(0));
        recordsNothing("leastWind", make, x -> x.leastWind(0));
        recordsNothing("ifTurned", make, x -> x.ifTurned(0));
        recordsNothing("mendingExchange", make, x -> x.mendingExchange());
        recordsNothing("bestEntry", make, x -> x.bestEntry(50));
        recordsNothing("append", make, x -> x.append('0'));
        recordsNothing("clearText", make, x -> x.clearText());
        recordsNothing("errorPosition", make, x -> x.errorPosition());
        recordsNothing("save", make, x -> x.save());
    }

    @Says(RECORDS)
    static void termsRefusedCallsRecordNothing() {
        Supplier<MastFlags> make = MoreTermsBoundsTest::readyForAll;
        recordsNothing("paint", make, x -> x.paint(0, 0, 0, 10));
        recordsNothing("setStock", make, x -> x.setStock(0));
        recordsNothing("setWind", make, x -> x.setWind(0, 2));
        recordsNothing("bend", make, x -> x.bend(1, PENNANT + 1));
        recordsNothing("unbend", make, x -> x.unbend(1));
        recordsNothing("exchange", make, x -> x.exchange(1, 1));
        recordsNothing("enter", make, x -> x.enter(1, 1));
        recordsNothing("strike", make, x -> x.strike(3));
        recordsNothing("sail", make, x -> x.sail(-1));
        recordsNothing("answer", Masts::closeUp, x -> x.answer());
        recordsNothing("hoist", Masts::full, x -> x.hoist());
        recordsNothing("restore", Masts::closeUp, x -> x.restore());
    }

    @Says("At most 5 states are kept; when a sixth one is recorded, the oldest one is discarded.")
    static void termsFiveStatesAreKept() {
        for (int calls = 0; calls <= 17; calls++) {
            MastFlags x = new MastFlags();
            for (int call = 1; call <= calls; call++) {
                x.enter(15, 5);
                x.strike(0);
                x.sail(call % 2);
            }
            due("of " + 3 * calls, recordedBy(x), Math.min(3 * calls, 5));
        }
        MastFlags x = new MastFlags();
        for (int strength = 0; strength < 6; strength++) {
            x.setWind(strength, 0);
        }
        for (int strength = 4; strength >= 0; strength--) {
            x.undo();
            due("the state", x.total(0), strength);
        }
        due("the oldest one is discarded", x.undo(), NOT_POSSIBLE);
        due("it stays", x.total(0), 0);
    }

    /** Five recorded states of each kind of call, at each place where the states may begin. */
    @Says("At most 5 states are kept; when a sixth one is recorded, the oldest one is discarded.")
    static void termsTheStatesOfEachCallAreKept() {
        for (Map.Entry<String, ToIntFunction<MastFlags>> call : undoableCalls().entrySet()) {
            for (int ahead = 0; ahead <= 5; ahead++) {
                int winds = ahead;
                Supplier<MastFlags> make = () -> {
                    MastFlags x = Masts.atTheDip();
                    Masts.type(x, "0:0,3:1");
                    x.save();
                    for (int wind = 0; wind < winds; wind++) {
                        x.setWind(9 - wind, 1);
                    }
                    return x;
                };
                undoable(call.getKey() + " behind " + ahead, make, call.getValue());
            }
        }
    }

    @Says("The state is everything except the buffer, the saved state of save() and the recorded states.")
    static void termsTheStateIsEverything() {
        MastFlags x = Masts.full();
        String before = Snapshot.ofState(x);
        x.lower();
        x.setStock(1);
        x.paint(0, 7, 6, 9);
        x.setWind(0, 1);
        x.sail(1);
        for (int step = 0; step < 5; step++) {
            x.undo();
        }
        same("undone", Snapshot.ofState(x), before);
        MastFlags logged = Masts.closeUp();
        logged.lower();
        logged.undo();
        due("the log", logged.total(8), 0);
        due("all messages", logged.total(9), 0);
        due("the pennant", logged.total(7), 2);
        due("the same message once more", logged.lower(), 2);
    }

    @Says("The state is everything except the buffer, the saved state of save() and the recorded states.")
    static void termsTheStateIsNotTheBuffer() {
        MastFlags x = hoisted(0, 5);
        x.save();
        Masts.type(x, "0:1");
        x.restore();
        due("restore() leaves it", x.errorPosition(), NONE);
        x.undo();
        due("undo() leaves it", x.errorPosition(), NONE);
        x.hoist();
        x.undo();
        due("undo() of hoist() does not fill it", x.clearText(), 0);
    }

    @Says("The state is everything except the buffer, the saved state of save() and the recorded states.")
    static void termsTheStateIsNotWhatIsSavedOrRecorded() {
        MastFlags x = hoisted(0, 5);
        x.lower();
        x.save();
        x.undo();
        due("undo() leaves the saved state", x.restore(), 0);
        MastFlags recorded = hoisted(0, 5);
        recorded.save();
        recorded.sail(1);
        recorded.sail(1);
        recorded.restore();
        due("restore() leaves the recorded states", recorded.undo(), 4);
        due("and adds one", recorded.total(6), 1);
    }
}
