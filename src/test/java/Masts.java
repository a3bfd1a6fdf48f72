/** Objects in states that several tests begin with. */
final class Masts {
    private static final int PENNANT = MastFlags.PENNANT;

    private Masts() {
    }

    /** Flags 0 to 2 look the same from both sides and are told in the book as 50 to 52. */
    static MastFlags withBook() {
        MastFlags x = new MastFlags();
        for (int flag = 0; flag < 3; flag++) {
            x.paint(flag, flag + 1, flag + 1, 0);
            x.enter(10 + flag, 50 + flag);
        }
        x.setStock(3);
        return x;
    }

    /** The hoists 0 and 2 tell the words 50 and 51; there is a text and a saved state, too. */
    static MastFlags signalling() {
        MastFlags x = withBook();
        x.bend(0, 0);
        x.bend(2, 1);
        type(x, "0:1");
        x.save();
        return x;
    }

    static MastFlags atTheDip() {
        MastFlags x = withBook();
        x.bend(0, 0);
        x.bend(3, 1);
        x.answer();
        return x;
    }

    static MastFlags closeUp() {
        MastFlags x = atTheDip();
        x.answer();
        return x;
    }

    /** Something of everything: a message in the log, a text, a saved state, five recorded states. */
    static MastFlags full() {
        MastFlags x = closeUp();
        x.lower();
        x.save();
        type(x, "0:012r1,2:");
        x.bend(0, 9);
        x.bend(0, PENNANT + 1);
        x.bend(0, 8);
        x.bend(0, 7);
        x.bend(2, 9);
        x.bend(4, 0);
        x.answer();
        return x;
    }

    /** Nothing more fits in: a hoist, the book, the log, the buffer, the recorded states; close up. */
    static MastFlags brimful() {
        MastFlags x = withBook();
        x.enter(10000, 54);
        for (int message = 0; message < 9; message++) {
            for (int word = 0; word <= message % 5; word++) {
                x.bend((message + word) % 5, (message + 2 * word) % 3);
            }
            x.answer();
            x.answer();
            x.lower();
        }
        for (int entry = 4; entry < 12; entry++) {
            x.enter(19, entry);
        }
        x.bend(4, 9);
        x.save();
        x.unbend(4);
        type(x, "0:0r1r2r3,1:1r1r2r3,2:2r1r2r3,3:3r1r2r3,4:4r1r2r3x");
        x.setWind(7, 1);
        x.sail(1);
        x.bend(3, 1);
        x.bend(0, 0);
        x.bend(0, PENNANT + 1);
        x.bend(0, PENNANT + 1);
        x.bend(0, PENNANT + 2);
        x.answer();
        x.answer();
        return x;
    }

    /** How many masts ofManners() makes: one of six manners on each of the five halyards. */
    static final int MANNERS = 6 * 6 * 6 * 6 * 6;

    /**
     * Each halyard is empty, tells one of three words, is read as one word from the front and as another
     * one from behind, or is not known.
     */
    static MastFlags ofManners(int manners) {
        MastFlags x = new MastFlags();
        x.setStock(3);
        for (int flag = 0; flag < 6; flag++) {
            x.paint(flag, flag, flag, 0);
            x.enter(10 + flag, 50 + flag % 3);
        }
        x.paint(6, 6, 7, 0);
        x.paint(7, 7, 6, 0);
        x.enter(16, 50);
        x.enter(17, 51);
        int rest = manners;
        for (int halyard = 0; halyard < 5; halyard++) {
            bendManner(x, halyard, rest % 6);
            rest /= 6;
        }
        return x;
    }

    /** A word is told by either of two flags, since there are but 3 pieces of each. */
    private static void bendManner(MastFlags x, int halyard, int manner) {
        int second = halyard % 2;
        if (manner >= 1 && manner <= 3) {
            x.bend(halyard, manner - 1 + 3 * second);
        } else if (manner == 4) {
            x.bend(halyard, x.flag(6, 3) > 0 ? 6 : 8);
        } else if (manner == 5) {
            x.bend(halyard, 8 + second);
        }
    }

    /**
     * Fills everything in one of two ways, which differ in each flag, each of the 20 signs, each of the 12
     * entries and each of the 8 messages.
     */
    static void pack(MastFlags x, int way) {
        x.lower();
        for (int entries = x.total(5); entries > 0; entries--) {
            x.strike(0);
        }
        x.setStock(3);
        x.setWind(8 + way, way);
        x.sail(1 - way);
        for (int flag = 0; flag < 10; flag++) {
            int colour = (flag + way) % 8;
            x.paint(flag, colour, flag < 8 ? colour : 7 - colour, flag == 9 ? 9 : 4 + way);
        }
        for (int entry = 0; entry < 12; entry++) {
            x.enter(entry < 8 ? 10 + entry : 10000 + 1111 * way + entry, 99 * way + (1 - 2 * way) * entry);
        }
        for (int message = 0; message < 8; message++) {
            int words = message == 7 ? 5 : 1 + (message + way) % 2;
            for (int halyard = 0; halyard < words; halyard++) {
                x.bend(halyard, (message + halyard + way) % 8);
            }
            x.answer();
            x.answer();
            x.lower();
        }
        for (int halyard = 0; halyard < 5; halyard++) {
            x.bend(halyard, (halyard + way) % 5);
            x.bend(halyard, way == 0 && halyard < 3 ? PENNANT + 1 : 5 + (halyard + way) % 5);
            x.bend(halyard, (halyard + way + 2) % 5);
            x.bend(halyard, way == 1 && halyard > 1 ? PENNANT + 3 : 5 + (halyard + way + 3) % 5);
        }
        x.answer();
    }

    static void type(MastFlags x, String text) {
        for (int index = 0; index < text.length(); index++) {
            x.append(text.charAt(index));
        }
    }
}
