/** Everything that the calls tell about an object, in fewer than 400 calls. */
final class Snapshot {
    private Snapshot() {
    }

    /** The state: without the buffer, the saved state and the recorded states. */
    static String ofState(MastFlags x) {
        StringBuilder all = new StringBuilder();
        addTotals(all, x);
        for (int flag = 0; flag < 10; flag++) {
            all.append(" flag").append(flag);
            for (int part = 0; part <= 4; part++) {
                all.append(' ').append(x.flag(flag, part));
            }
        }
        addHoists(all, x);
        for (int entry = 0; entry < x.total(5); entry++) {
            all.append(" entry").append(entry).append(' ').append(x.entry(entry, 0));
            all.append(' ').append(x.entry(entry, 1));
        }
        for (int message = 0; message < x.total(8); message++) {
            all.append(" message").append(message);
            int words = x.logged(message, 0);
            for (int part = 0; part <= words; part++) {
                all.append(' ').append(x.logged(message, part));
            }
        }
        return all.toString();
    }

    /** The state, then the buffer, the recorded states and the saved state, which this uses up. */
    static String ofAll(MastFlags x) {
        StringBuilder all = new StringBuilder(ofState(x));
        all.append(" text ").append(x.errorPosition()).append(' ').append(x.clearText());
        all.append(" recorded");
        int left;
        do {
            left = x.undo();
            all.append(' ').append(left);
            addTotals(all, x);
        } while (left > 0);
        all.append(" saved ").append(x.restore());
        addTotals(all, x);
        return all.toString();
    }

    private static void addTotals(StringBuilder all, MastFlags x) {
        all.append(" totals");
        for (int what = 0; what <= 9; what++) {
            all.append(' ').append(x.total(what));
        }
    }

    private static void addHoists(StringBuilder all, MastFlags x) {
        for (int halyard = 0; halyard < 5; halyard++) {
            all.append(" halyard").append(halyard);
            int place = 1;
            while (x.sign(halyard, place, 0) >= 0) {
                all.append(' ').append(x.sign(halyard, place, 0));
                place++;
            }
        }
    }
}
