import java.util.function.Supplier;

/** The sentences of promises 26 to 29: append, clearText, errorPosition, hoist. */
public final class TextsBoundsTest extends Bounds {
    public static void main(String[] args) {
        run(TextsBoundsTest.class);
    }

    private static Supplier<MastFlags> text(String text) {
        return () -> typed(text);
    }

    // ---- promise 26: append

    @Says("Appends a character to the buffer.")
    static void promise26AppendsAtTheEnd() {
        MastFlags x = new MastFlags();
        int[] position = {1, 2, NONE, 4, NONE, 6, 7, 8, NONE};
        String text = "1:5r1,2:6";
        for (int index = 0; index < text.length(); index++) {
            x.append(text.charAt(index));
            due("behind " + text.substring(0, index + 1), x.errorPosition(), position[index]);
        }
        due("hoisted", x.hoist(), 3);
        due("its last sign", x.sign(2, 1, 0), 6);
    }

    @Says("Appends a character to the buffer.")
    static void promise26IsNotUndoable() {
        recordsNothing("a new object", MastFlags::new, x -> x.append('0'));
        recordsNothing("full", Masts::full, x -> x.append('0'));
        MastFlags x = hoisted(0, 5);
        x.append('0');
        x.undo();
        due("undo() leaves it", x.clearText(), 1);
    }

    @Says("`code`: 33 to 126")
    static void promise26Codes33To126() {
        takenWithin(33, 126, MastFlags::append);
        for (int code = 33; code <= 126; code++) {
            MastFlags x = new MastFlags();
            x.append(code);
            due("in the buffer", x.errorPosition(), code >= '0' && code <= '4' ? 1 : 0);
        }
    }

    @Says("Returns the number of characters in the buffer")
    static void promise26ReturnsTheNumberOfCharacters() {
        MastFlags x = new MastFlags();
        for (int characters = 1; characters <= 50; characters++) {
            due("so many", x.append(33 + characters), characters);
        }
        x.clearText();
        due("emptied", x.append(126), 1);
    }

    @Says("BAD_VALUE if code is out of range")
    static void promise26BadValue() {
        refusedOutside(33, 126, MastFlags::append, BAD_VALUE);
        refused("a blank", text("0:1"), x -> x.append(' '), BAD_VALUE);
        refused("0", text("0:1"), x -> x.append(0), BAD_VALUE);
        refused("65536 + '0'", text("0:"), x -> x.append(65536 + '0'), BAD_VALUE);
        refused("256 + '0'", text("0:"), x -> x.append(256 + '0'), BAD_VALUE);
        refused("-'0'", text("0:"), x -> x.append(-'0'), BAD_VALUE);
    }

    @Says("LIMIT if the buffer contains 50 characters")
    static void promise26LimitOf50Characters() {
        for (int code : new int[] {33, '0', '5', ',', 'x', 126}) {
            refused("a 51st, " + code, text(textOf(50)), x -> x.append(code), LIMIT);
            refused("a 51st, " + code + ", brimful", Masts::brimful, x -> x.append(code), LIMIT);
        }
        due("the 50th", typed(textOf(49)).append('x'), 50);
        MastFlags x = typed(textOf(50));
        x.append('0');
        x.append('0');
        due("50 are left", x.clearText(), 50);
        due("room again", x.append('0'), 1);
    }

    @Says({"BAD_VALUE if code is out of range", "LIMIT if the buffer contains 50 characters"})
    static void promise26BadValueComesFirst() {
        refused("127", text(textOf(50)), x -> x.append(127), BAD_VALUE);
        refused("32", text(textOf(50)), x -> x.append(32), BAD_VALUE);
        refused("-1, brimful", Masts::brimful, x -> x.append(-1), BAD_VALUE);
    }

    // ---- promise 27: clearText

    @Says("Empties the buffer")
    static void promise27EmptiesTheBuffer() {
        for (int characters : new int[] {0, 1, 9, 49, 50}) {
            MastFlags x = typed(textOf(characters));
            x.clearText();
            due("no characters", x.clearText(), 0);
            due("no error", x.errorPosition(), 0);
            due("no text", x.hoist(), BAD_TEXT);
            Masts.type(x, "4:9");
            due("a new text", x.hoist(), 1);
            due("nothing of the old one", x.sign(4, 1, 0), 9);
        }
    }

    @Says("returns the number of characters that it contained")
    static void promise27ReturnsTheNumberOfCharacters() {
        for (int characters = 0; characters <= 50; characters++) {
            due("of " + characters, typed(textOf(characters)).clearText(), characters);
        }
        MastFlags x = typed("0:1");
        x.hoist();
        due("behind hoist()", x.clearText(), 0);
    }

    @Says("Empties the buffer")
    static void promise27IsNotUndoable() {
        recordsNothing("a new object", MastFlags::new, x -> x.clearText());
        recordsNothing("brimful", Masts::brimful, x -> x.clearText());
        MastFlags x = Masts.full();
        x.clearText();
        x.undo();
        due("undo() does not bring it back", x.clearText(), 0);
        x.restore();
        due("nor does restore()", x.clearText(), 0);
    }

    // ---- promise 28: errorPosition

    private static void position(String text, int want) {
        tells("errorPosition() of " + text, text(text), x -> x.errorPosition(), want);
    }

    @Says({"Finds the first error in the buffer.", "Returns the index of the first character that is an error"})
    static void promise28FirstError() {
        position("x", 0);
        position("xx", 0);
        position("5:1", 0);
        position("0;1", 1);
        position("0:a", 2);
        position("0:1a2b", 3);
        position("0:1r2", 4);
        position("4:1,", 3);
        position("1:1,1:1", 4);
        position("0:12345", 6);
        position(textOf(50), 49);
        position("0:1," + "x".repeat(46), 4);
        position("!".repeat(50), 0);
    }

    @Says("if there is none and the buffer is not a text, the number of characters in the buffer")
    static void promise28NumberOfCharacters() {
        position("", 0);
        position("0", 1);
        position("4:", 2);
        position("0:1r", 4);
        position("0:1,", 4);
        position("0:1,4", 5);
        for (int characters = 0; characters < 49; characters++) {
            String text = textOf(characters);
            boolean isText = text.matches(".*(r[1-3]|:[0-9])");
            position(text, isText ? NONE : characters);
        }
    }

    @Says("NONE if the buffer is a text")
    static void promise28None() {
        position("0:0", NONE);
        position("4:9999", NONE);
        position("0:1,1:2,2:3,3:4,4:5", NONE);
        position(textOf(49), NONE);
        tells("a buffer that was full before", Snapshot.behind(text(textOf(50)), y -> {
            y.clearText();
            Masts.type(y, "0:0");
            return 0;
        }), x -> x.errorPosition(), NONE);
    }

    // ---- promise 29: hoist

    private static MastFlags closeUpWith(String text) {
        MastFlags x = Masts.closeUp();
        Masts.type(x, text);
        return x;
    }

    @Says("Hoists what the buffer tells: all hoists on the mast are taken off")
    static void promise29TakesAllHoistsOff() {
        MastFlags x = new MastFlags();
        x.setStock(3);
        for (int halyard = 0; halyard < 5; halyard++) {
            bendAll(x, halyard, 2 * halyard, 2 * halyard + 1);
        }
        Masts.type(x, "2:7");
        due("hoist()", x.hoist(), 1);
        for (int halyard = 0; halyard < 5; halyard++) {
            due("the uppermost", x.sign(halyard, 1, 0), halyard == 2 ? 7 : NO_SUCH);
            due("below it", x.sign(halyard, 2, 0), NO_SUCH);
        }
        due("pieces of 0", x.flag(0, 3), 3);
        due("pieces of 7", x.flag(7, 3), 2);
    }

    @Says("(nothing is logged)")
    static void promise29LogsNothing() {
        MastFlags x = closeUpWith("0:0,3:1");
        due("hoist()", x.hoist(), 2);
        due("messages", x.total(8), 0);
        due("all messages", x.total(9), 0);
        due("no message", x.logged(0, 0), NO_SUCH);
    }

    @Says("those of the text are hoisted in their place")
    static void promise29HoistsThoseOfTheText() {
        MastFlags x = new MastFlags();
        x.setStock(3);
        Masts.type(x, "0:0123,1:4r1r1r2,2:9,3:56r2,4:78r1r3");
        int[][] signs = {{0, 1, 2, 3}, {4, 11, 11, 12}, {9}, {5, 6, 12}, {7, 8, 11, 13}};
        due("hoist()", x.hoist(), 16);
        for (int halyard = 0; halyard < 5; halyard++) {
            for (int place = 1; place <= 5; place++) {
                boolean isThere = place <= signs[halyard].length;
                due("sign " + halyard + " " + place, x.sign(halyard, place, 0), isThere ? signs[halyard][place - 1] : NO_SUCH);
            }
        }
    }

    @Says("the buffer becomes empty")
    static void promise29EmptiesTheBuffer() {
        MastFlags x = typed("0:1");
        x.hoist();
        due("no text", x.hoist(), BAD_TEXT);
        due("no error", x.errorPosition(), 0);
        due("no characters", x.clearText(), 0);
        due("the hoist stays", x.total(3), 1);
        x.undo();
        due("empty behind undo()", x.clearText(), 0);
    }

    @Says("The pennant of the other ship is down then.")
    static void promise29BringsThePennantDown() {
        MastFlags x = closeUpWith("0:0,3:1");
        x.hoist();
        due("from close up", x.total(7), 0);
        MastFlags dip = Masts.atTheDip();
        Masts.type(dip, "0:0,3:1");
        dip.hoist();
        due("from the dip", dip.total(7), 0);
        MastFlags down = typed("0:1");
        down.hoist();
        due("it was down", down.total(7), 0);
    }

    @Says("Undoable.")
    static void promise29Undoable() {
        undoable("a new mast", text("0:1"), x -> x.hoist());
        undoable("signalling", Masts::signalling, x -> x.hoist());
        undoable("close up", () -> closeUpWith("4:9"), x -> x.hoist());
        undoable("what is there already", () -> closeUpWith("0:0,3:1"), x -> x.hoist());
        undoable("all 20 signs", () -> {
            MastFlags x = new MastFlags();
            Masts.pack(x, 0);
            Masts.type(x, "0:9876,1:5432,2:10r1r2,3:9876,4:5432");
            return x;
        }, x -> x.hoist());
    }

    @Says("Returns the number of signs on the mast then")
    static void promise29ReturnsTheNumberOfSigns() {
        due("one", typed("4:0").hoist(), 1);
        due("pennants, too", typed("4:0r1r2r3").hoist(), 4);
        MastFlags x = closeUpWith("0:0123,1:4567,2:89r1r2,3:0123,4:4567");
        due("all places", x.hoist(), 20);
        due("total(3)", x.total(3), 20);
    }

    @Says("BAD_TEXT if the buffer is not a text")
    static void promise29BadText() {
        String[] wrong = {"", "0", "0:", "0:1r", "0:1,", "0:1,1", "0:1,1:", "x", "5:1", "0:1x", "0:12345", "0:r1",
            "0:1r2", "1:1,0:1", "0:1,0:1", "4:1,", textOf(50), textOf(48), "!"};
        for (String text : wrong) {
            refused("hoist() of " + text, text(text), x -> x.hoist(), BAD_TEXT);
            refused("hoist() of " + text + ", close up", () -> closeUpWith(text), x -> x.hoist(), BAD_TEXT);
        }
        refused("full", Masts::full, x -> x.hoist(), BAD_TEXT);
        refused("brimful", Masts::brimful, x -> x.hoist(), BAD_TEXT);
    }

    private static Supplier<MastFlags> stocked(int stock, String text) {
        return () -> {
            MastFlags x = typed(text);
            x.setStock(stock);
            return x;
        };
    }

    @Says("LIMIT if there are not enough pieces of a kind")
    static void promise29LimitOfFlags() {
        for (int stock = 1; stock <= 3; stock++) {
            for (int flag = 0; flag <= 9; flag++) {
                String enough = "0:" + String.valueOf(flag).repeat(stock);
                due("enough: " + enough, stocked(stock, enough).get().hoist(), stock);
                refused("one more than " + enough, stocked(stock, enough + flag), x -> x.hoist(), LIMIT);
                refused("one more on another halyard than " + enough, stocked(stock, enough + ",4:" + flag),
                        x -> x.hoist(), LIMIT);
            }
        }
    }

    @Says("LIMIT if there are not enough pieces of a kind")
    static void promise29LimitOfPennants() {
        String[] flags = {"012", "345", "678"};
        for (int stock = 1; stock <= 3; stock++) {
            for (int pennant = 1; pennant <= 3; pennant++) {
                StringBuilder text = new StringBuilder();
                for (int halyard = 0; halyard < stock; halyard++) {
                    text.append(halyard).append(':').append(flags[halyard]).append('r').append(pennant).append(',');
                }
                String enough = text.substring(0, text.length() - 1);
                due("enough: " + enough, stocked(stock, enough).get().hoist(), 4 * stock);
                String more = text + "4:" + (stock == 3 ? "999" : flags[stock]) + "r" + pennant;
                refused("one more than " + enough, stocked(stock, more), x -> x.hoist(), LIMIT);
            }
        }
    }

    @Says("LIMIT if there are not enough pieces of a kind")
    static void promise29PiecesOnTheMastAreFreeAgain() {
        MastFlags x = typed("0:0r1");
        x.hoist();
        Masts.type(x, "1:0r1");
        due("the same pieces elsewhere", x.hoist(), 2);
        Masts.type(x, "0:0,1:0");
        due("one too many", x.hoist(), LIMIT);
        due("the old ones stay", x.sign(1, 2, 1), 0);
    }

    @Says("(in both cases the buffer stays)")
    static void promise29TheBufferStays() {
        MastFlags bad = typed("0:1,1");
        bad.hoist();
        Masts.type(bad, ":2");
        due("then a text", bad.hoist(), 2);
        MastFlags limit = typed("0:1,1:1");
        due("not enough", limit.hoist(), LIMIT);
        limit.setStock(2);
        due("then enough", limit.hoist(), 2);
        MastFlags full = typed(textOf(50));
        due("bad", full.hoist(), BAD_TEXT);
        due("still 50 characters", full.clearText(), 50);
    }

    @Says({"BAD_TEXT if the buffer is not a text", "LIMIT if there are not enough pieces of a kind"})
    static void promise29BadTextComesFirst() {
        refused("a half behind too many", text("0:11,"), x -> x.hoist(), BAD_TEXT);
        refused("an error behind too many", text("0:1r1r1x"), x -> x.hoist(), BAD_TEXT);
    }
}
