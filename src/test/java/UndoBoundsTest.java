import java.util.List;
import java.util.function.Supplier;

/** The sentences of promises 30 to 32: undo, save, restore. */
public final class UndoBoundsTest extends Bounds {
    public static void main(String[] args) {
        run(UndoBoundsTest.class);
    }

    /** So many calls of setWind; behind the k-th one the strength is k % 10. */
    private static MastFlags winds(int calls) {
        MastFlags x = new MastFlags();
        for (int call = 1; call <= calls; call++) {
            x.setWind(call % 10, 1);
        }
        return x;
    }

    private static int strengthBehind(int calls) {
        return calls == 0 ? 5 : calls % 10;
    }

    // ---- promise 30: undo

    @Says("Makes the latest recorded state current")
    static void promise30LatestStateFirst() {
        for (int calls = 1; calls <= 16; calls++) {
            MastFlags x = winds(calls);
            for (int step = 1; step <= Math.min(calls, 5); step++) {
                x.undo();
                due("step " + step + " of " + calls, x.total(0), strengthBehind(calls - step));
                due("from where", x.total(1), calls == step ? 0 : 1);
            }
        }
    }

    @Says("discards it from the recorded states")
    static void promise30DiscardsIt() {
        MastFlags x = winds(3);
        x.undo();
        x.setWind(9, 1);
        due("one ahead of it", x.undo(), 2);
        due("strength", x.total(0), 2);
        due("two ahead of it", x.undo(), 1);
        due("strength", x.total(0), 1);
        due("three ahead of it", x.undo(), 0);
        due("strength", x.total(0), 5);
        due("none", x.undo(), NOT_POSSIBLE);
        x.setWind(7, 0);
        due("recorded again", x.undo(), 0);
    }

    /** The ring of the recorded states turns over several times, and back at each place. */
    @Says("discards it from the recorded states")
    static void promise30UndoneAtEachPlace() {
        for (int calls = 0; calls <= 12; calls++) {
            for (int undone = 0; undone <= Math.min(calls, 5); undone++) {
                MastFlags x = winds(calls);
                for (int step = 0; step < undone; step++) {
                    x.undo();
                }
                int at = strengthBehind(calls - undone);
                x.setWind(3, 1);
                x.setWind(8, 1);
                int kept = Math.min(Math.min(calls, 5) - undone + 2, 5);
                due("undo() of " + calls + " less " + undone, x.undo(), kept - 1);
                due("strength", x.total(0), 3);
                due("undo() again", x.undo(), kept - 2);
                due("strength as ahead of both", x.total(0), at);
                due("the others", recordedBy(x), kept - 2);
            }
        }
    }

    @Says("Returns the number of recorded states that remain")
    static void promise30ReturnsTheNumberThatRemain() {
        for (int calls = 1; calls <= 16; calls++) {
            MastFlags x = winds(calls);
            for (int left = Math.min(calls, 5) - 1; left >= 0; left--) {
                due("of " + calls, x.undo(), left);
            }
        }
    }

    @Says("NOT_POSSIBLE if there is none")
    static void promise30NotPossible() {
        refused("a new object", MastFlags::new, x -> x.undo(), NOT_POSSIBLE);
        refused("a text and a saved state", Snapshot.behind(() -> typed("0:1"), y -> y.save()),
                x -> x.undo(), NOT_POSSIBLE);
        for (Supplier<MastFlags> make : List.<Supplier<MastFlags>>of(Masts::full, Masts::brimful, () -> winds(1))) {
            refused("all undone", Snapshot.behind(make, Bounds::recordedBy), x -> x.undo(), NOT_POSSIBLE);
        }
    }

    // ---- promise 31: save

    @Says("Saves the state")
    static void promise31SavesTheState() {
        for (Supplier<MastFlags> make : List.<Supplier<MastFlags>>of(
                MastFlags::new, Masts::signalling, Masts::full, Masts::closeUp, Masts::brimful)) {
            MastFlags x = make.get();
            x.save();
            same("it stays as it was", Snapshot.ofState(x), Snapshot.ofState(make.get()));
            MastFlags changed = make.get();
            changed.save();
            changed.lower();
            changed.paint(0, 7, 0, 9);
            changed.enter(10, 99);
            changed.strike(0);
            changed.sail(1);
            changed.setStock(2);
            changed.setWind(0, 1);
            changed.restore();
            same("saved", Snapshot.ofState(changed), Snapshot.ofState(make.get()));
        }
    }

    @Says("Saves the state")
    static void promise31IsNotUndoable() {
        recordsNothing("a new object", MastFlags::new, x -> x.save());
        recordsNothing("brimful", Masts::brimful, x -> x.save());
        MastFlags x = winds(1);
        x.save();
        x.undo();
        due("undo() leaves the saved state", x.restore(), 0);
        due("as saved", x.total(0), 1);
    }

    @Says("overwrites the state that was saved before")
    static void promise31OverwritesTheOneBefore() {
        MastFlags x = winds(1);
        x.save();
        x.setWind(2, 1);
        x.save();
        x.setWind(3, 1);
        x.restore();
        due("the later one", x.total(0), 2);
        x.restore();
        due("once more", x.total(0), 2);
    }

    @Says("Returns the number of signs on the mast.")
    static void promise31ReturnsTheNumberOfSigns() {
        due("none", new MastFlags().save(), 0);
        due("one", hoisted(4, 0).save(), 1);
        due("six", Masts.full().save(), 6);
        MastFlags x = new MastFlags();
        x.setStock(3);
        Masts.type(x, "0:0123,1:4567,2:89r1r2,3:0123,4:4567");
        x.hoist();
        due("all places", x.save(), 20);
    }

    // ---- promise 32: restore

    @Says("Makes the saved state current, with the pennant of the other ship as it was saved")
    static void promise32ThePennantAsSaved() {
        MastFlags closeUp = Masts.closeUp();
        closeUp.save();
        closeUp.sail(0);
        closeUp.restore();
        due("close up", closeUp.total(7), 2);
        due("what was read is logged", closeUp.lower(), 2);
        MastFlags dip = Masts.atTheDip();
        dip.save();
        dip.answer();
        dip.restore();
        due("at the dip", dip.total(7), 1);
        MastFlags down = Masts.signalling();
        down.save();
        down.answer();
        down.answer();
        down.restore();
        due("down", down.total(7), 0);
    }

    private static MastFlags packed(int way) {
        MastFlags x = new MastFlags();
        Masts.pack(x, way);
        return x;
    }

    /** Packed in one way and saved, then packed in the other way. */
    private static MastFlags savedThenPacked(int way) {
        MastFlags x = packed(way);
        x.save();
        Masts.pack(x, 1 - way);
        return x;
    }

    /** Each flag, each of 20 signs, each of 12 entries and each of 8 messages is another one meanwhile. */
    @Says("Makes the saved state current")
    static void promise32AllThatWasSaved() {
        for (int way = 0; way <= 1; way++) {
            MastFlags x = savedThenPacked(way);
            due("signs", x.restore(), 20);
            same("restored", Snapshot.ofState(x), Snapshot.ofState(packed(way)));
            MastFlags undone = savedThenPacked(way);
            undone.restore();
            undone.undo();
            same("undone", Snapshot.ofState(undone), Snapshot.ofState(savedThenPacked(way)));
        }
    }

    /** So that the test above can show what it should. */
    @Says("Makes the saved state current")
    static void promise32TheTwoWaysOfPackingDiffer() {
        MastFlags x = packed(0);
        MastFlags other = packed(1);
        for (int flag = 0; flag < 10; flag++) {
            due("a flag", x.flag(flag, 0) == other.flag(flag, 0) ? 1 : 0, 0);
        }
        for (int place = 1; place <= 4; place++) {
            for (int halyard = 0; halyard < 5; halyard++) {
                taken("a sign", x.sign(halyard, place, 0));
                due("a sign", x.sign(halyard, place, 0) == other.sign(halyard, place, 0) ? 1 : 0, 0);
            }
        }
        for (int entry = 0; entry < 12; entry++) {
            taken("an entry", x.entry(entry, 1));
            due("an entry", x.entry(entry, 1) == other.entry(entry, 1) ? 1 : 0, 0);
        }
        for (int message = 0; message < 8; message++) {
            taken("a message", x.logged(message, 1));
            due("a message", x.logged(message, 1) == other.logged(message, 1) ? 1 : 0, 0);
        }
        due("the longest message", x.logged(7, 0), 5);
        due("the pennant", x.total(7), 1);
    }

    @Says("it remains saved")
    static void promise32RemainsSaved() {
        MastFlags x = hoisted(1, 5, 6);
        x.save();
        for (int time = 1; time <= 7; time++) {
            x.lower();
            due("time " + time, x.restore(), 2);
            x.unbend(1);
            due("and at once", x.restore(), 2);
        }
        x.undo();
        x.undo();
        due("behind undo()", x.restore(), 2);
    }

    @Says("Undoable.")
    static void promise32Undoable() {
        undoable("signalling", Snapshot.behind(Masts::signalling, y -> y.lower()), x -> x.restore());
        undoable("as it is", Snapshot.behind(Masts::closeUp, y -> y.save()), x -> x.restore());
        undoable("full", Masts::full, x -> x.restore());
        undoable("brimful", Masts::brimful, x -> x.restore());
    }

    @Says("Returns the number of signs on the mast then")
    static void promise32ReturnsTheNumberOfSigns() {
        due("full", Masts.full().restore(), 0);
        due("brimful", Masts.brimful().restore(), 1);
        MastFlags x = hoisted(0, 1, 2, 3, 4);
        x.save();
        x.lower();
        due("four", x.restore(), 4);
    }

    @Says("NOT_POSSIBLE if no state was saved")
    static void promise32NotPossible() {
        refused("a new object", MastFlags::new, x -> x.restore(), NOT_POSSIBLE);
        refused("at the dip", Masts::atTheDip, x -> x.restore(), NOT_POSSIBLE);
        refused("close up", Masts::closeUp, x -> x.restore(), NOT_POSSIBLE);
        refused("undone", Snapshot.behind(() -> winds(7), y -> y.undo()), x -> x.restore(), NOT_POSSIBLE);
    }
}
