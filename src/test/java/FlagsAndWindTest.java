/** Promises 1 to 5: a new object, paint, setStock, setWind, flag. */
public final class FlagsAndWindTest {
    private static final Checks checks = new Checks();

    public static void main(String[] args) {
        newObject();
        paint();
        paintRefuses();
        setStock();
        setStockRefuses();
        setWind();
        flag();
        flagRefuses();
        checks.finish();
    }

    private static void newObject() {
        MastFlags x = new MastFlags();
        int[] totals = {5, 0, 1, 0, 0, 0, 0, 0, 0, 0};
        for (int what = 0; what < totals.length; what++) {
            checks.due("new, total(" + what + ")", x.total(what), totals[what]);
        }
        int[] hoist = {0, 1, 2, 3, 4, 5, 6, 7, 0, 1};
        int[] fly = {1, 4, 7, 2, 5, 0, 3, 6, 1, 4};
        int[] weight = {0, 0, 1, 1, 2, 2, 3, 3, 4, 4};
        for (int flag = 0; flag < 10; flag++) {
            checks.due("new, flag(" + flag + ", 0)", x.flag(flag, 0), hoist[flag]);
            checks.due("new, flag(" + flag + ", 1)", x.flag(flag, 1), fly[flag]);
            checks.due("new, flag(" + flag + ", 2)", x.flag(flag, 2), weight[flag]);
            checks.due("new, flag(" + flag + ", 3)", x.flag(flag, 3), 1);
        }
        for (int halyard = 0; halyard < 5; halyard++) {
            checks.due("new, sign(" + halyard + ", 1, 0)", x.sign(halyard, 1, 0), MastFlags.NO_SUCH);
        }
        checks.due("new, entry(0, 0)", x.entry(0, 0), MastFlags.NO_SUCH);
        checks.due("new, undo()", x.undo(), MastFlags.NOT_POSSIBLE);
        checks.due("new, restore()", x.restore(), MastFlags.NOT_POSSIBLE);
        checks.due("new, clearText()", x.clearText(), 0);
        checks.same("another object", Snapshot.ofAll(FlagsAndWindTest::besideAnother), Snapshot.ofAll(MastFlags::new));
    }

    /** A new object, made ahead of another one that is changed. */
    private static MastFlags besideAnother() {
        MastFlags x = new MastFlags();
        Masts.full();
        return x;
    }

    private static void paint() {
        MastFlags x = new MastFlags();
        checks.due("paint alone", x.paint(3, 7, 7, 9), 1);
        checks.due("its hoist", x.flag(3, 0), 7);
        checks.due("its fly", x.flag(3, 1), 7);
        checks.due("its weight", x.flag(3, 2), 9);
        checks.due("paint the last like it", x.paint(9, 7, 7, 0), 2);
        checks.due("paint the first like it", x.paint(0, 7, 7, 5), 3);
        checks.due("the same again", x.paint(0, 7, 7, 5), 3);
        checks.due("the same hoist only", x.paint(1, 7, 0, 5), 1);
        checks.due("the same fly only", x.paint(2, 0, 7, 5), 1);
        checks.due("mirrored is not alike", x.paint(4, 0, 7, 0), 2);
        checks.due("all 0", x.paint(5, 0, 0, 0), 1);
        checks.undoable("paint", Masts::signalling, y -> y.paint(0, 2, 2, 2), 2);
        checks.pennantBehind("paint", Masts::atTheDip, y -> y.paint(9, 1, 4, 4), 0);
    }

    private static void paintRefuses() {
        checks.refused("paint(-1)", Masts::full, y -> y.paint(-1, 0, 0, 0), MastFlags.NO_SUCH);
        checks.refused("paint(10)", Masts::full, y -> y.paint(10, 0, 0, 0), MastFlags.NO_SUCH);
        checks.refused("paint, all wrong", Masts::full, y -> y.paint(10, 8, 8, 10), MastFlags.NO_SUCH);
        checks.refused("hoist -1", Masts::full, y -> y.paint(0, -1, 0, 0), MastFlags.BAD_VALUE);
        checks.refused("hoist 8", Masts::full, y -> y.paint(0, 8, 0, 0), MastFlags.BAD_VALUE);
        checks.refused("fly -1", Masts::full, y -> y.paint(9, 0, -1, 0), MastFlags.BAD_VALUE);
        checks.refused("fly 8", Masts::full, y -> y.paint(9, 0, 8, 0), MastFlags.BAD_VALUE);
        checks.refused("weight -1", Masts::full, y -> y.paint(9, 0, 0, -1), MastFlags.BAD_VALUE);
        checks.refused("weight 10", Masts::full, y -> y.paint(9, 0, 0, 10), MastFlags.BAD_VALUE);
    }

    private static void setStock() {
        MastFlags x = new MastFlags();
        checks.due("setStock(3)", x.setStock(3), 1);
        checks.due("total(2)", x.total(2), 3);
        checks.due("setStock(3) again", x.setStock(3), 3);
        checks.due("recorded", x.undo(), 1);
        x.bend(0, 7);
        x.bend(1, 7);
        checks.due("setStock(2) with two", x.setStock(2), 3);
        checks.due("setStock(1) with two", x.setStock(1), MastFlags.NOT_POSSIBLE);
        x.unbend(1);
        checks.due("setStock(1) with one", x.setStock(1), 2);
        checks.undoable("setStock", Masts::signalling, y -> y.setStock(2), 3);
        checks.pennantBehind("setStock", Masts::atTheDip, y -> y.setStock(3), 1);
        checks.pennantBehind("setStock", Masts::closeUp, y -> y.setStock(2), 2);
    }

    private static void setStockRefuses() {
        checks.refused("setStock(0)", Masts::full, y -> y.setStock(0), MastFlags.BAD_VALUE);
        checks.refused("setStock(4)", Masts::full, y -> y.setStock(4), MastFlags.BAD_VALUE);
        checks.refused("flags", Masts::full, y -> y.setStock(1), MastFlags.NOT_POSSIBLE);
        checks.refused("pennants", FlagsAndWindTest::twoPennants, y -> y.setStock(1), MastFlags.NOT_POSSIBLE);
    }

    private static MastFlags twoPennants() {
        MastFlags x = new MastFlags();
        x.setStock(2);
        for (int halyard = 0; halyard < 2; halyard++) {
            x.bend(halyard, 2 * halyard);
            x.bend(halyard, 2 * halyard + 1);
            x.bend(halyard, halyard + 5);
            x.bend(halyard, MastFlags.PENNANT + 3);
        }
        return x;
    }

    private static void setWind() {
        MastFlags x = new MastFlags();
        checks.due("setWind(0, 1)", x.setWind(0, 1), 5);
        checks.due("total(0)", x.total(0), 0);
        checks.due("total(1)", x.total(1), 1);
        checks.due("setWind(9, 0)", x.setWind(9, 0), 0);
        checks.due("setWind(9, 0) again", x.setWind(9, 0), 9);
        checks.due("recorded", x.undo(), 2);
        checks.due("from", x.total(1), 0);
        checks.undoable("setWind", Masts::signalling, y -> y.setWind(1, 1), 5);
        checks.pennantBehind("setWind to the same", Masts::atTheDip, y -> y.setWind(5, 0), 0);
        checks.refused("strength -1", Masts::full, y -> y.setWind(-1, 0), MastFlags.BAD_VALUE);
        checks.refused("strength 10", Masts::full, y -> y.setWind(10, 0), MastFlags.BAD_VALUE);
        checks.refused("from -1", Masts::full, y -> y.setWind(5, -1), MastFlags.BAD_VALUE);
        checks.refused("from 2", Masts::full, y -> y.setWind(5, 2), MastFlags.BAD_VALUE);
    }

    private static void flag() {
        MastFlags x = new MastFlags();
        x.setStock(3);
        x.bend(0, 4);
        x.bend(0, MastFlags.PENNANT + 1);
        x.bend(4, 4);
        checks.due("left of 4, a pennant is no flag", x.flag(4, 3), 1);
        checks.due("left of 3", x.flag(3, 3), 3);
        x.bend(2, 4);
        checks.due("left of 4", x.flag(4, 3), 0);
        checks.due("none is mirrored", x.flag(4, 4), MastFlags.NONE);
        x.paint(9, 5, 4, 9);
        checks.due("mirrored, heavy", x.flag(4, 4), 9);
        checks.due("the other way", x.flag(9, 4), 4);
        x.paint(7, 5, 4, 0);
        checks.due("the lowest one", x.flag(4, 4), 7);
        x.paint(8, 6, 6, 0);
        checks.due("one colour", x.flag(8, 4), 8);
        x.paint(1, 6, 6, 0);
        checks.due("one colour, a lower one", x.flag(8, 4), 1);
        checks.onlyTells("flag", Masts::full, y -> y.flag(0, 0), 1);
    }

    private static void flagRefuses() {
        checks.refused("flag(-1, 0)", Masts::full, y -> y.flag(-1, 0), MastFlags.NO_SUCH);
        checks.refused("flag(10, 0)", Masts::full, y -> y.flag(10, 0), MastFlags.NO_SUCH);
        checks.refused("flag(10, 5)", Masts::full, y -> y.flag(10, 5), MastFlags.NO_SUCH);
        checks.refused("flag(0, -1)", Masts::full, y -> y.flag(0, -1), MastFlags.BAD_VALUE);
        checks.refused("flag(9, 5)", Masts::full, y -> y.flag(9, 5), MastFlags.BAD_VALUE);
    }
}
