/** Promises 26 to 29: append, clearText, errorPosition, hoist. */
public final class TextsTest {
    private static final int NONE = MastFlags.NONE;
    private static final Checks checks = new Checks();

    public static void main(String[] args) {
        append();
        clearText();
        texts();
        halves();
        errors();
        errorsOfHalyards();
        everyCharacter();
        hoist();
        hoistPieces();
        hoistRefuses();
        checks.finish();
    }

    private static MastFlags typed(String text) {
        MastFlags x = new MastFlags();
        Masts.type(x, text);
        return x;
    }

    private static MastFlags fullBuffer() {
        return typed("0:0r1r2r3,1:1r1r2r3,2:2r1r2r3,3:3r1r2r3,4:4r1r2r3x");
    }

    private static void append() {
        MastFlags x = new MastFlags();
        for (int index = 0; index < 50; index++) {
            checks.due("append", x.append(index % 2 == 0 ? 33 : 126), index + 1);
        }
        checks.due("a 51st", x.append(48), MastFlags.LIMIT);
        checks.due("not recorded", x.undo(), MastFlags.NOT_POSSIBLE);
        checks.due("50 characters", x.clearText(), 50);
        checks.due("room again", x.append(48), 1);
        checks.pennantBehind("append", Masts::closeUp, y -> y.append(48), 2);
        checks.refused("code 32", Masts::full, y -> y.append(32), MastFlags.BAD_VALUE);
        checks.refused("code 127", Masts::full, y -> y.append(127), MastFlags.BAD_VALUE);
        checks.refused("code -48", Masts::full, y -> y.append(-48), MastFlags.BAD_VALUE);
        checks.refused("code 65584", Masts::full, y -> y.append(65584), MastFlags.BAD_VALUE);
        checks.refused("full", TextsTest::fullBuffer, y -> y.append(48), MastFlags.LIMIT);
        checks.refused("full, wrong", TextsTest::fullBuffer, y -> y.append(127), MastFlags.BAD_VALUE);
    }

    private static void clearText() {
        MastFlags x = typed("0:1,");
        checks.due("four", x.clearText(), 4);
        checks.due("none", x.clearText(), 0);
        Masts.type(x, "4:2");
        checks.due("a new text", x.errorPosition(), NONE);
        checks.due("not recorded", x.undo(), MastFlags.NOT_POSSIBLE);
        MastFlags undone = Masts.full();
        undone.clearText();
        undone.undo();
        checks.due("undo() does not bring it back", undone.clearText(), 0);
        checks.pennantBehind("clearText", Masts::closeUp, y -> y.clearText(), 2);
    }

    private static void position(String text, int want) {
        checks.onlyTells("errorPosition() of " + text, () -> typed(text), y -> y.errorPosition(), want);
    }

    private static void texts() {
        String[] texts = {"0:0", "4:9", "0:0000", "2:5r1", "2:5r1r2r3", "2:5r1r1r1", "1:56r2", "1:56r17",
            "0:1,1:2,2:3,3:4,4:5", "0:1,4:1", "3:9876,4:5r1r2r1", "0:0r1r2r3,1:1r1r2r3,2:2r1r2r3,3:3r1r2r3,4:4r1r2r3"};
        for (String text : texts) {
            position(text, NONE);
        }
    }

    private static void halves() {
        String[] halves = {"", "0", "4", "4:", "4:5r", "4:555r", "0:1,", "0:1,1", "0:1,4:", "3:5555,", "3:0,4:0r"};
        for (String half : halves) {
            position(half, half.length());
        }
    }

    private static void errors() {
        position("5", 0);
        position("r", 0);
        position(":", 0);
        position(",0:1", 0);
        position("/:1", 0);
        position("00", 1);
        position("0,", 1);
        position("0::", 2);
        position("0:,", 2);
        position("0:r1", 2);
        position("0:R", 2);
        position("0:5R1", 3);
        position("0:5;", 3);
        position("0:5r0", 4);
        position("0:5r2", 4);
        position("0:5rr", 4);
        position("0:5r,", 4);
        position("0:5r1r3", 6);
        position("0:567r4", 6);
        position("0:567r3", NONE);
        position("0:5678r", 6);
        position("0:56789", 6);
        position("0:5r1r2r3r", 9);
        position("0:5r1r2r34", 9);
        position("0:5:", 3);
        position("0:5,,", 4);
        position("0:5,r", 4);
        position("x0:5,r", 0);
    }

    private static void errorsOfHalyards() {
        for (int first = 0; first <= 4; first++) {
            for (int second = 0; second <= 5; second++) {
                String text = first + ":1," + second + ":2";
                int want = first == 4 ? 3 : second > first && second < 5 ? NONE : 4;
                position(text, want);
            }
        }
        position("0:1,2:1,1:1", 8);
        position("0:1,2:1,2:1", 8);
        position("0:1,1:1,2:1,3:1,4:1,", 19);
    }

    private static void everyCharacter() {
        for (int code = 33; code <= 126; code++) {
            String one = String.valueOf((char) code);
            position(one, "01234".contains(one) ? 1 : 0);
            position("1" + one, ":".equals(one) ? 2 : 1);
            position("1:" + one, "0123456789".contains(one) ? NONE : 2);
            int behindFlag = "0123456789".contains(one) ? NONE : "r,".contains(one) ? 4 : 3;
            position("1:0" + one, behindFlag);
            position("1:00r" + one, "12".contains(one) ? NONE : 5);
            position("1:0000" + one, ",".equals(one) ? 7 : 6);
            position("2:0," + one, "34".contains(one) ? 5 : 4);
        }
    }

    private static void hoist() {
        MastFlags x = Masts.full();
        x.clearText();
        Masts.type(x, "1:3r1,4:45");
        checks.due("hoist()", x.hoist(), 4);
        checks.due("the buffer is empty", x.clearText(), 0);
        checks.due("two hoists", x.total(4), 2);
        checks.due("nothing on 0", x.sign(0, 1, 0), MastFlags.NO_SUCH);
        checks.due("1, first", x.sign(1, 1, 0), 3);
        checks.due("1, second", x.sign(1, 2, 0), MastFlags.PENNANT + 1);
        checks.due("4, second", x.sign(4, 2, 0), 5);
        checks.due("down", x.total(7), 0);
        x.undo();
        checks.due("undone", x.total(3), 6);
        checks.due("at the dip again", x.total(7), 1);
        checks.due("the buffer stays empty", x.clearText(), 0);
        MastFlags closeUp = Masts.closeUp();
        Masts.type(closeUp, "0:0,3:1");
        checks.due("the same again", closeUp.hoist(), 2);
        checks.due("nothing is logged", closeUp.total(9), 0);
        checks.due("down, close up before", closeUp.total(7), 0);
        checks.undoable("hoist", Masts::signalling, y -> y.hoist(), 1);
        MastFlags whole = fullBuffer();
        whole.clearText();
        whole.setStock(3);
        Masts.type(whole, "0:0123,1:4567,2:89r1r2,3:0123,4:0r1r2r3");
        checks.due("all places", whole.hoist(), 20);
        checks.due("no piece left", whole.flag(0, 3), 0);
    }

    private static void hoistPieces() {
        MastFlags x = typed("0:0,1:0");
        checks.due("two pieces of 1", x.hoist(), MastFlags.LIMIT);
        x.setStock(2);
        checks.due("two pieces of 2", x.hoist(), 2);
        Masts.type(x, "2:0,3:0");
        checks.due("those on the mast are taken off first", x.hoist(), 2);
        Masts.type(x, "0:1r1,1:2r1,2:3r1");
        checks.due("three pennants of 2", x.hoist(), MastFlags.LIMIT);
        x.setStock(3);
        checks.due("three pennants of 3", x.hoist(), 6);
        Masts.type(x, "0:9999");
        checks.due("four of 3", x.hoist(), MastFlags.LIMIT);
    }

    private static void hoistRefuses() {
        checks.refused("empty", MastFlags::new, y -> y.hoist(), MastFlags.BAD_TEXT);
        checks.refused("a half", Masts::full, y -> y.hoist(), MastFlags.BAD_TEXT);
        checks.refused("an error", TextsTest::fullBuffer, y -> y.hoist(), MastFlags.BAD_TEXT);
        checks.refused("an error ahead of pieces", () -> typed("0:00,"), y -> y.hoist(), MastFlags.BAD_TEXT);
        checks.refused("flags", () -> typed("0:0,4:0"), y -> y.hoist(), MastFlags.LIMIT);
        checks.refused("pennants", () -> typed("0:0r1,4:1r1"), y -> y.hoist(), MastFlags.LIMIT);
        checks.refused("in one hoist", () -> typed("0:9r1r1"), y -> y.hoist(), MastFlags.LIMIT);
    }
}
