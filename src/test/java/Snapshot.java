import java.util.function.Supplier;
import java.util.function.ToIntFunction;

/** Everything that the calls tell about an object. */
final class Snapshot {
    private Snapshot() {
    }

    /** The same object behind one more call. */
    static Supplier<MastFlags> behind(Supplier<MastFlags> make, ToIntFunction<MastFlags> call) {
        return () -> {
            MastFlags x = make.get();
            call.applyAsInt(x);
            return x;
        };
    }

    /** The state: without the buffer, the saved state and the recorded states; in some 320 calls. */
    static String ofState(MastFlags x) {
        StringBuilder all = new StringBuilder();
        addTotals(all, x);
        addFlags(all, x);
        addHoists(all, x);
        addBook(all, x);
        addLog(all, x);
        addReadings(all, x);
        return all.toString();
    }

    /**
     * The state, the buffer, the recorded states and the saved state. Each is asked of an object of its
     * own, since the asking uses them up and an object stands for 512 calls only.
     */
    static String ofAll(Supplier<MastFlags> make) {
        StringBuilder all = new StringBuilder(ofState(make.get()));
        for (int undone = 1; undone <= 6; undone++) {
            MastFlags x = make.get();
            all.append("\n  undone");
            for (int step = 1; step <= undone; step++) {
                all.append(' ').append(x.undo());
            }
            all.append(ofState(x));
        }
        MastFlags restored = make.get();
        all.append("\n  restored ").append(restored.restore()).append(ofState(restored));
        MastFlags hoisted = make.get();
        all.append("\n  text ").append(hoisted.errorPosition()).append(' ').append(hoisted.hoist());
        all.append(' ').append(hoisted.clearText()).append(ofState(hoisted));
        MastFlags longer = make.get();
        all.append("\n  longer ").append(longer.append('5')).append(' ').append(longer.errorPosition());
        all.append(' ').append(longer.clearText());
        return all.toString();
    }

    private static void addTotals(StringBuilder all, MastFlags x) {
        all.append(" totals");
        for (int what = 0; what <= 9; what++) {
            all.append(' ').append(x.total(what));
        }
    }

    private static void addFlags(StringBuilder all, MastFlags x) {
        for (int flag = 0; flag < 10; flag++) {
            all.append(" flag").append(flag);
            for (int part = 0; part <= 4; part++) {
                all.append(' ').append(x.flag(flag, part));
            }
        }
    }

    private static void addHoists(StringBuilder all, MastFlags x) {
        for (int halyard = 0; halyard < 5; halyard++) {
            all.append(" halyard").append(halyard);
            for (int place = 1; x.sign(halyard, place, 0) >= 0; place++) {
                for (int part = 0; part <= 2; part++) {
                    all.append(' ').append(x.sign(halyard, place, part));
                }
                all.append(' ').append(x.seen(0, halyard, place)).append(' ').append(x.seen(1, halyard, place));
            }
        }
    }

    private static void addBook(StringBuilder all, MastFlags x) {
        int size = x.total(5);
        for (int entry = 0; entry < size; entry++) {
            int word = x.entry(entry, 1);
            all.append(" entry").append(entry).append(' ').append(x.entry(entry, 0)).append(' ').append(word);
            all.append(' ').append(x.bestEntry(word));
        }
    }

    private static void addLog(StringBuilder all, MastFlags x) {
        int size = x.total(8);
        for (int message = 0; message < size; message++) {
            all.append(" message").append(message);
            int words = x.logged(message, 0);
            for (int part = 0; part <= words; part++) {
                all.append(' ').append(x.logged(message, part));
            }
        }
    }

    private static void addReadings(StringBuilder all, MastFlags x) {
        for (int side = 0; side <= 1; side++) {
            all.append(" side").append(side);
            for (int word = 0; word <= 5; word++) {
                all.append(' ').append(x.word(side, word));
            }
            all.append(' ').append(x.known(side)).append(' ').append(x.leastWind(side));
            all.append(' ').append(x.ifTurned(side));
        }
        all.append(" same ").append(x.isSame()).append(' ').append(x.mendingExchange());
    }
}
