import java.util.function.ToIntFunction;

/** Promises 30 to 32: undo, save, restore. */
public final class UndoTest {
    private static final Checks checks = new Checks();

    public static void main(String[] args) {
        undo();
        sixRecorded();
        undoWithoutDifference();
        notRecorded();
        save();
        restore();
        restoreIsUndoable();
        restoreAll();
        checks.finish();
    }

    private static void undo() {
        checks.refused("none recorded", MastFlags::new, y -> y.undo(), MastFlags.NOT_POSSIBLE);
        MastFlags x = new MastFlags();
        x.bend(0, 1);
        x.bend(0, 2);
        checks.due("one remains", x.undo(), 1);
        checks.due("the second is off", x.total(3), 1);
        x.bend(0, 3);
        checks.due("one remains again", x.undo(), 1);
        checks.due("none remains", x.undo(), 0);
        checks.due("empty", x.total(3), 0);
        checks.due("not possible", x.undo(), MastFlags.NOT_POSSIBLE);
        checks.due("it goes on", x.bend(0, 4), 1);
    }

    private static void sixRecorded() {
        for (int calls = 1; calls <= 13; calls++) {
            MastFlags x = new MastFlags();
            for (int call = 1; call <= calls; call++) {
                x.setWind(call % 10, 0);
            }
            int kept = Math.min(calls, 5);
            for (int step = 1; step <= kept; step++) {
                checks.due("undo " + step + " of " + calls, x.undo(), kept - step);
                int call = calls - step;
                checks.due("wind " + step + " of " + calls, x.total(0), call == 0 ? 5 : call % 10);
            }
            checks.due("no more of " + calls, x.undo(), MastFlags.NOT_POSSIBLE);
        }
    }

    private static void undoWithoutDifference() {
        MastFlags x = new MastFlags();
        x.paint(0, 0, 1, 0);
        x.setStock(1);
        x.setWind(5, 0);
        x.sail(0);
        x.lower();
        checks.due("five are recorded", x.undo(), 4);
        x.exchange(0, 1);
        checks.due("another", x.undo(), 4);
        x.save();
        x.restore();
        checks.due("and another", x.undo(), 4);
    }

    /** Calls that only tell, that fail, or that touch the buffer or the saved state. */
    private static void notRecorded() {
        MastFlags x = new MastFlags();
        Masts.type(x, "0:1x");
        x.hoist();
        x.clearText();
        x.errorPosition();
        x.save();
        x.paint(10, 0, 0, 0);
        x.setStock(0);
        x.setWind(10, 0);
        x.bend(0, 10);
        x.unbend(0);
        x.exchange(0, 0);
        x.enter(0, 0);
        x.strike(0);
        x.sail(2);
        x.answer();
        x.mendingExchange();
        x.leastWind(0);
        checks.due("none recorded", x.undo(), MastFlags.NOT_POSSIBLE);
    }

    private static void save() {
        MastFlags x = Masts.full();
        checks.due("signs on the mast", x.save(), 6);
        checks.due("of none", new MastFlags().save(), 0);
        checks.due("at the dip as before", x.total(7), 1);
        x.lower();
        x.bend(0, 1);
        checks.due("another", x.save(), 1);
        x.lower();
        checks.due("overwritten", x.restore(), 1);
        checks.due("its sign", x.sign(0, 1, 0), 1);
    }

    private static void restore() {
        checks.refused("none saved", Masts::closeUp, y -> y.restore(), MastFlags.NOT_POSSIBLE);
        MastFlags x = Masts.closeUp();
        x.save();
        String saved = Snapshot.ofState(x);
        x.lower();
        x.bend(4, 9);
        checks.due("signs on the mast", x.restore(), 2);
        checks.due("close up as saved", x.total(7), 2);
        checks.due("the log as saved", x.total(9), 0);
        checks.same("all as saved", Snapshot.ofState(x), saved);
        x.lower();
        checks.due("it remains saved", x.restore(), 2);
        MastFlags down = Masts.withBook();
        down.bend(0, 0);
        down.save();
        down.answer();
        down.answer();
        down.restore();
        checks.due("down as saved", down.total(7), 0);
    }

    private static void restoreIsUndoable() {
        checks.undoable("restore", Masts::full, y -> y.restore(), 0);
        MastFlags x = Masts.full();
        x.restore();
        checks.due("undone", x.undo(), 4);
        checks.due("six signs", x.total(3), 6);
        checks.due("still saved behind undo()", x.restore(), 0);
        MastFlags buffer = Masts.full();
        buffer.restore();
        checks.due("the buffer is not restored", buffer.clearText(), 10);
        MastFlags undone = new MastFlags();
        undone.bend(0, 0);
        undone.save();
        undone.undo();
        checks.due("saved, then undone", undone.restore(), 1);
    }

    /** Whatever changes, restore() brings it back. */
    private static void restoreAll() {
        changed("paint", y -> y.paint(9, 1, 1, 1));
        changed("setStock", y -> y.setStock(2));
        changed("setWind", y -> y.setWind(9, 1));
        changed("bend", y -> y.bend(4, 9));
        changed("unbend", y -> y.unbend(0));
        changed("exchange", y -> y.exchange(0, 1));
        changed("lower", y -> y.lower());
        changed("enter", y -> y.enter(15, 5));
        changed("strike", y -> y.strike(0));
        changed("sail", y -> y.sail(1));
    }

    private static void changed(String what, ToIntFunction<MastFlags> call) {
        MastFlags x = Masts.closeUp();
        x.save();
        checks.due(what + " fails", call.applyAsInt(x) < 0 ? 1 : 0, 0);
        x.restore();
        checks.same(what + ", restored", Snapshot.ofState(x), Snapshot.ofState(Masts.closeUp()));
    }
}
