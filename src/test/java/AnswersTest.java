/** Promises 18 to 21: sail, answer, logged, total. */
public final class AnswersTest {
    private static final Checks checks = new Checks();

    public static void main(String[] args) {
        sail();
        answer();
        answerOfTheSide();
        answerRefuses();
        logged();
        loggedFull();
        loggedLengths();
        loggedRefuses();
        total();
        checks.finish();
    }

    private static void sail() {
        MastFlags x = new MastFlags();
        checks.due("sail(1)", x.sail(1), 0);
        checks.due("total(6)", x.total(6), 1);
        checks.due("sail(1) again", x.sail(1), 1);
        checks.due("sail(0)", x.sail(0), 1);
        checks.due("recorded", x.undo(), 2);
        checks.undoable("sail", Masts::signalling, y -> y.sail(1), 0);
        checks.pennantBehind("sail to the same", Masts::atTheDip, y -> y.sail(0), 0);
        checks.pennantBehind("sail, close up", Masts::closeUp, y -> y.sail(1), 0);
        checks.refused("side -1", Masts::full, y -> y.sail(-1), MastFlags.BAD_VALUE);
        checks.refused("side 2", Masts::full, y -> y.sail(2), MastFlags.BAD_VALUE);
    }

    private static void answer() {
        MastFlags x = Masts.withBook();
        x.bend(2, 1);
        checks.due("at the dip", x.answer(), 1);
        checks.due("total(7)", x.total(7), 1);
        checks.due("close up", x.answer(), 2);
        checks.due("total(7), close up", x.total(7), 2);
        checks.due("no more", x.answer(), MastFlags.NOT_POSSIBLE);
        checks.due("recorded", x.undo(), 4);
        checks.due("at the dip again", x.total(7), 1);
        checks.due("recorded again", x.undo(), 3);
        checks.due("down again", x.total(7), 0);
        checks.undoable("answer, down", Masts::signalling, y -> y.answer(), 1);
        checks.undoable("answer, at the dip", Masts::atTheDip, y -> y.answer(), 2);
        MastFlags unknown = new MastFlags();
        unknown.bend(0, 0);
        checks.due("at the dip with an unknown word", unknown.answer(), 1);
        checks.due("not close up", unknown.answer(), MastFlags.NOT_POSSIBLE);
    }

    /** The front reads the flag 3, which no flag mirrors. */
    private static MastFlags oneSided(int side) {
        MastFlags x = new MastFlags();
        x.enter(13, 1);
        x.bend(0, 3);
        x.sail(side);
        x.answer();
        return x;
    }

    private static void answerOfTheSide() {
        checks.due("front", oneSided(0).answer(), 2);
        checks.due("behind", oneSided(1).answer(), MastFlags.NOT_POSSIBLE);
        MastFlags turned = new MastFlags();
        turned.enter(13, 1);
        turned.bend(0, 3);
        turned.sail(1);
        turned.setWind(5, 1);
        turned.answer();
        checks.due("behind, the wind turned", turned.answer(), 2);
    }

    private static void answerRefuses() {
        checks.refused("empty", Masts::withBook, y -> y.answer(), MastFlags.NOT_POSSIBLE);
        checks.refused("close up", Masts::closeUp, y -> y.answer(), MastFlags.NOT_POSSIBLE);
        checks.refused("not known", Masts::full, y -> y.answer(), MastFlags.NOT_POSSIBLE);
        checks.refused("not known", () -> oneSided(1), y -> y.answer(), MastFlags.NOT_POSSIBLE);
    }

    /** Logs a message of one word. */
    private static void tell(MastFlags x, int word) {
        while (x.total(5) > 0) {
            x.strike(0);
        }
        x.enter(10, word);
        x.bend(0, 0);
        x.answer();
        x.answer();
        x.lower();
    }

    /** Logs a message of so many words: 50, 51, 52, 50, 51. */
    private static void tellMany(MastFlags x, int words) {
        for (int halyard = 0; halyard < words; halyard++) {
            x.bend(halyard, halyard % 3);
        }
        x.answer();
        x.answer();
        x.lower();
    }

    private static void logged() {
        MastFlags x = Masts.withBook();
        for (int halyard = 0; halyard < 5; halyard++) {
            x.bend(halyard, halyard % 3);
        }
        x.answer();
        x.answer();
        checks.due("five words", x.lower(), 5);
        checks.due("logged(0, 0)", x.logged(0, 0), 5);
        for (int part = 1; part <= 5; part++) {
            checks.due("logged(0, " + part + ")", x.logged(0, part), 50 + (part - 1) % 3);
        }
        x.bend(4, 2);
        x.answer();
        x.answer();
        checks.due("one word", x.lower(), 1);
        checks.due("the oldest one stays first", x.logged(0, 0), 5);
        checks.due("the second one", x.logged(1, 0), 1);
        checks.due("its word", x.logged(1, 1), 52);
        checks.due("its second word", x.logged(1, 2), MastFlags.NO_SUCH);
        checks.due("its fifth word", x.logged(1, 5), MastFlags.NO_SUCH);
        checks.due("no third one", x.logged(2, 0), MastFlags.NO_SUCH);
        x.enter(13, 53);
        x.strike(0);
        checks.due("the book may change", x.logged(0, 1), 50);
    }

    private static void loggedFull() {
        MastFlags x = Masts.withBook();
        for (int message = 0; message < 10; message++) {
            tell(x, 80 + message);
            checks.due("total(8)", x.total(8), Math.min(message + 1, 8));
            checks.due("total(9)", x.total(9), message + 1);
            checks.due("the oldest", x.logged(0, 1), 80 + Math.max(message - 7, 0));
            checks.due("the latest", x.logged(x.total(8) - 1, 1), 80 + message);
        }
        checks.due("no ninth one", x.logged(8, 0), MastFlags.NO_SUCH);
        x.undo();
        checks.due("undone, the oldest", x.logged(0, 1), 81);
        checks.due("undone, the latest", x.logged(7, 1), 88);
        checks.due("undone, total(9)", x.total(9), 9);
    }

    private static void loggedLengths() {
        MastFlags x = Masts.withBook();
        int[] words = {1, 2, 3, 4, 5, 4, 3, 2, 5, 1, 4, 2};
        for (int message = 0; message < words.length; message++) {
            tellMany(x, words[message]);
            int oldest = Math.max(message - 7, 0);
            for (int at = oldest; at <= message; at++) {
                int part = words[at];
                checks.due("length of " + at + " of " + message, x.logged(at - oldest, 0), part);
                checks.due("last of " + at + " of " + message, x.logged(at - oldest, part), 50 + (part - 1) % 3);
            }
        }
        x.undo();
        checks.due("undone, the oldest length", x.logged(0, 0), 4);
        checks.due("undone, the latest length", x.logged(7, 0), 4);
        checks.due("undone, its last word", x.logged(7, 4), 50);
    }

    private static void loggedRefuses() {
        checks.refused("message -1", Masts::full, y -> y.logged(-1, 0), MastFlags.NO_SUCH);
        checks.refused("message 1 of 1", Masts::full, y -> y.logged(1, 0), MastFlags.NO_SUCH);
        checks.refused("message ahead of part", Masts::full, y -> y.logged(1, 6), MastFlags.NO_SUCH);
        checks.refused("not so many words", Masts::full, y -> y.logged(0, 3), MastFlags.NO_SUCH);
        checks.refused("not so many words", Masts::full, y -> y.logged(0, 5), MastFlags.NO_SUCH);
        checks.refused("part -1", Masts::full, y -> y.logged(0, -1), MastFlags.BAD_VALUE);
        checks.refused("part 6", Masts::full, y -> y.logged(0, 6), MastFlags.BAD_VALUE);
        checks.onlyTells("logged", Masts::full, y -> y.logged(0, 2), 51);
    }

    private static void total() {
        int[] totals = {5, 0, 3, 6, 3, 3, 0, 1, 1, 1};
        for (int what = 0; what < totals.length; what++) {
            int asked = what;
            checks.onlyTells("total(" + what + ")", Masts::full, y -> y.total(asked), totals[what]);
        }
        checks.refused("total(-1)", Masts::full, y -> y.total(-1), MastFlags.BAD_VALUE);
        checks.refused("total(10)", Masts::full, y -> y.total(10), MastFlags.BAD_VALUE);
        MastFlags x = Masts.full();
        x.setWind(8, 1);
        x.sail(1);
        checks.due("total(0)", x.total(0), 8);
        checks.due("total(1)", x.total(1), 1);
        checks.due("total(6)", x.total(6), 1);
    }
}
