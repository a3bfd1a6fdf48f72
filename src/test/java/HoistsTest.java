/** Promises 6 to 10: bend, unbend, exchange, lower, sign. */
public final class HoistsTest {
    private static final int PENNANT = MastFlags.PENNANT;
    private static final Checks checks = new Checks();

    public static void main(String[] args) {
        bend();
        bendPennants();
        bendRefuses();
        bendOrderOfErrors();
        unbend();
        exchange();
        lower();
        sign();
        signOfPennants();
        checks.finish();
    }

    private static void bend() {
        MastFlags x = new MastFlags();
        for (int halyard = 0; halyard < 5; halyard++) {
            checks.due("bend first", x.bend(halyard, 2 * halyard), 1);
            checks.due("bend second", x.bend(halyard, 2 * halyard + 1), 2);
            checks.due("total(4)", x.total(4), halyard + 1);
        }
        checks.due("total(3)", x.total(3), 10);
        checks.due("uppermost", x.sign(4, 1, 0), 8);
        checks.due("below", x.sign(4, 2, 0), 9);
        checks.undoable("bend", Masts::signalling, y -> y.bend(2, 9), 2);
        checks.pennantBehind("bend", Masts::atTheDip, y -> y.bend(4, 9), 0);
    }

    private static void bendPennants() {
        MastFlags x = new MastFlags();
        checks.due("pennant 1 on none", x.bend(0, PENNANT + 1), MastFlags.NOT_POSSIBLE);
        x.bend(0, 5);
        checks.due("pennant 2 on one", x.bend(0, PENNANT + 2), MastFlags.NOT_POSSIBLE);
        checks.due("pennant 1 on one", x.bend(0, PENNANT + 1), 2);
        checks.due("pennant 3 on two", x.bend(0, PENNANT + 3), MastFlags.NOT_POSSIBLE);
        checks.due("pennant 2 on two", x.bend(0, PENNANT + 2), 3);
        checks.due("pennant 3 on three", x.bend(0, PENNANT + 3), 4);
        x.bend(1, 6);
        checks.due("no piece of pennant 1", x.bend(1, PENNANT + 1), MastFlags.LIMIT);
        x.setStock(2);
        checks.due("a second piece of pennant 1", x.bend(1, PENNANT + 1), 2);
        x.bend(2, 7);
        checks.due("no third piece", x.bend(2, PENNANT + 1), MastFlags.LIMIT);
        x.setStock(3);
        checks.due("a third piece of pennant 1", x.bend(2, PENNANT + 1), 2);
        x.bend(3, 8);
        checks.due("no fourth piece", x.bend(3, PENNANT + 1), MastFlags.LIMIT);
    }

    private static void bendRefuses() {
        checks.refused("halyard -1", Masts::full, y -> y.bend(-1, 3), MastFlags.NO_SUCH);
        checks.refused("halyard 5", Masts::full, y -> y.bend(5, 3), MastFlags.NO_SUCH);
        checks.refused("sign -1", Masts::full, y -> y.bend(1, -1), MastFlags.NO_SUCH);
        checks.refused("sign 10", Masts::full, y -> y.bend(1, 10), MastFlags.NO_SUCH);
        checks.refused("sign 14", Masts::full, y -> y.bend(1, 14), MastFlags.NO_SUCH);
        checks.refused("no sign above", Masts::full, y -> y.bend(1, PENNANT + 1), MastFlags.NOT_POSSIBLE);
        checks.refused("itself", Masts::full, y -> y.bend(2, PENNANT + 2), MastFlags.NOT_POSSIBLE);
        checks.refused("4 signs", Masts::full, y -> y.bend(0, 3), MastFlags.LIMIT);
        checks.refused("4 signs, a pennant", Masts::full, y -> y.bend(0, PENNANT + 2), MastFlags.LIMIT);
        checks.refused("no piece", HoistsTest::oneOfThree, y -> y.bend(1, 3), MastFlags.LIMIT);
    }

    private static MastFlags oneOfThree() {
        MastFlags x = new MastFlags();
        x.bend(0, 3);
        return x;
    }

    private static void bendOrderOfErrors() {
        checks.refused("halyard ahead of pennant", Masts::full, y -> y.bend(5, PENNANT + 3), MastFlags.NO_SUCH);
        checks.refused("sign ahead of limit", Masts::full, y -> y.bend(0, 14), MastFlags.NO_SUCH);
        MastFlags x = new MastFlags();
        x.bend(0, 5);
        x.bend(0, 6);
        x.bend(0, 7);
        x.bend(0, PENNANT + 3);
        x.bend(1, 8);
        checks.due("pennant ahead of pieces", x.bend(1, PENNANT + 3), MastFlags.NOT_POSSIBLE);
    }

    private static void unbend() {
        MastFlags x = new MastFlags();
        x.bend(4, 9);
        x.bend(4, PENNANT + 1);
        x.bend(4, 0);
        checks.due("the lowest", x.unbend(4), 0);
        checks.due("its piece is back", x.flag(0, 3), 1);
        checks.due("a pennant", x.unbend(4), PENNANT + 1);
        checks.due("the last", x.unbend(4), 9);
        checks.due("none", x.unbend(4), MastFlags.NOT_POSSIBLE);
        checks.due("empty", x.total(4), 0);
        checks.undoable("unbend", Masts::signalling, y -> y.unbend(2), 1);
        checks.pennantBehind("unbend", Masts::atTheDip, y -> y.unbend(3), 0);
        checks.refused("halyard -1", Masts::full, y -> y.unbend(-1), MastFlags.NO_SUCH);
        checks.refused("halyard 5", Masts::full, y -> y.unbend(5), MastFlags.NO_SUCH);
        checks.refused("empty", Masts::full, y -> y.unbend(3), MastFlags.NOT_POSSIBLE);
    }

    private static void exchange() {
        MastFlags x = new MastFlags();
        x.bend(0, 9);
        x.bend(0, PENNANT + 1);
        x.bend(0, 8);
        x.bend(4, 3);
        checks.due("exchange(0, 4)", x.exchange(0, 4), 4);
        checks.due("0, first", x.sign(0, 1, 0), 3);
        checks.due("0, second", x.sign(0, 2, 0), MastFlags.NO_SUCH);
        checks.due("4, first", x.sign(4, 1, 0), 9);
        checks.due("4, second", x.sign(4, 2, 0), PENNANT + 1);
        checks.due("4, second, its flag", x.sign(4, 2, 1), 9);
        checks.due("4, third", x.sign(4, 3, 0), 8);
        checks.due("with an empty one", x.exchange(4, 1), 3);
        checks.due("moved", x.sign(1, 3, 0), 8);
        checks.due("gone", x.sign(4, 1, 0), MastFlags.NO_SUCH);
        checks.due("two empty ones", x.exchange(2, 3), 0);
        checks.due("recorded", x.undo(), 4);
        checks.undoable("exchange", Masts::signalling, y -> y.exchange(2, 1), 1);
        checks.pennantBehind("exchange of empty ones", Masts::atTheDip, y -> y.exchange(1, 2), 0);
        checks.refused("halyard -1", Masts::full, y -> y.exchange(-1, 0), MastFlags.NO_SUCH);
        checks.refused("halyard 5", Masts::full, y -> y.exchange(5, 0), MastFlags.NO_SUCH);
        checks.refused("other -1", Masts::full, y -> y.exchange(0, -1), MastFlags.NO_SUCH);
        checks.refused("other 5", Masts::full, y -> y.exchange(0, 5), MastFlags.NO_SUCH);
        checks.refused("the same, none such", Masts::full, y -> y.exchange(5, 5), MastFlags.NO_SUCH);
        checks.refused("the same", Masts::full, y -> y.exchange(0, 0), MastFlags.BAD_VALUE);
        checks.refused("the same, the last", Masts::full, y -> y.exchange(4, 4), MastFlags.BAD_VALUE);
    }

    private static void lower() {
        MastFlags x = Masts.closeUp();
        checks.due("lower(), close up", x.lower(), 2);
        checks.due("no signs", x.total(3), 0);
        checks.due("down", x.total(7), 0);
        checks.due("one message", x.total(8), 1);
        checks.due("its words", x.logged(0, 0), 2);
        checks.due("its first word", x.logged(0, 1), 50);
        checks.due("its second word", x.logged(0, 2), 51);
        checks.due("lower(), empty", x.lower(), 0);
        checks.due("still one message", x.total(9), 1);
        MastFlags dip = Masts.atTheDip();
        checks.due("lower(), at the dip", dip.lower(), 0);
        checks.due("no message", dip.total(8), 0);
        checks.due("down from the dip", dip.total(7), 0);
        MastFlags down = Masts.signalling();
        checks.due("lower(), down", down.lower(), 0);
        checks.due("no message, down", down.total(9), 0);
        checks.undoable("lower, close up", Masts::closeUp, y -> y.lower(), 2);
        checks.undoable("lower, empty", MastFlags::new, y -> y.lower(), 0);
        lowerFromBehind();
    }

    private static void lowerFromBehind() {
        MastFlags x = Masts.withBook();
        x.sail(1);
        x.bend(0, 0);
        x.bend(3, 1);
        x.bend(4, 2);
        x.answer();
        x.answer();
        checks.due("three words", x.lower(), 3);
        checks.due("from behind, first", x.logged(0, 1), 52);
        checks.due("from behind, second", x.logged(0, 2), 51);
        checks.due("from behind, third", x.logged(0, 3), 50);
    }

    private static void sign() {
        MastFlags x = Masts.full();
        checks.due("part 0", x.sign(0, 1, 0), 9);
        checks.due("part 1", x.sign(0, 1, 1), 9);
        checks.due("part 2, flies", x.sign(0, 1, 2), 0);
        x.setWind(4, 1);
        checks.due("part 2, as heavy as the wind", x.sign(0, 1, 2), 0);
        x.setWind(3, 1);
        checks.due("part 2, droops", x.sign(0, 1, 2), 1);
        checks.due("part 2, its pennant", x.sign(0, 2, 2), 1);
        checks.due("part 2, a lighter one", x.sign(0, 4, 2), 0);
        checks.refused("halyard -1", Masts::full, y -> y.sign(-1, 1, 0), MastFlags.NO_SUCH);
        checks.refused("halyard 5", Masts::full, y -> y.sign(5, 1, 0), MastFlags.NO_SUCH);
        checks.refused("place 0", Masts::full, y -> y.sign(0, 0, 0), MastFlags.NO_SUCH);
        checks.refused("place -1", Masts::full, y -> y.sign(2, -1, 0), MastFlags.NO_SUCH);
        checks.refused("place 5", Masts::full, y -> y.sign(0, 5, 0), MastFlags.NO_SUCH);
        checks.refused("place 2 of 1", Masts::full, y -> y.sign(2, 2, 0), MastFlags.NO_SUCH);
        checks.refused("place ahead of part", Masts::full, y -> y.sign(2, 2, 3), MastFlags.NO_SUCH);
        checks.refused("part -1", Masts::full, y -> y.sign(0, 4, -1), MastFlags.BAD_VALUE);
        checks.refused("part 3", Masts::full, y -> y.sign(0, 1, 3), MastFlags.BAD_VALUE);
    }

    private static void signOfPennants() {
        MastFlags x = new MastFlags();
        x.bend(3, 6);
        x.bend(3, 7);
        x.bend(3, PENNANT + 2);
        x.bend(3, PENNANT + 3);
        checks.due("repeats the second", x.sign(3, 3, 1), 7);
        checks.due("repeats what the third repeats", x.sign(3, 4, 1), 7);
        x.lower();
        x.bend(3, 6);
        x.bend(3, PENNANT + 1);
        x.bend(3, PENNANT + 2);
        x.bend(3, PENNANT + 3);
        checks.due("three in a row", x.sign(3, 4, 1), 6);
        checks.due("its sign", x.sign(3, 4, 0), PENNANT + 3);
    }
}
