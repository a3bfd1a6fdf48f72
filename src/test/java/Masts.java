/** Objects in states that several tests begin with. */
final class Masts {
    private Masts() {
    }

    /** Flags 0 to 2 look the same from both sides and are told in the book as 50 to 52. */
    static MastFlags withBook() {
        MastFlags x = new MastFlags();
        for (int flag = 0; flag < 3; flag++) {
            x.paint(flag, flag + 1, flag + 1, 0);
            x.enter(10 + flag, 50 + flag);
        }
        x.setStock(3);
        return x;
    }

    /** The hoists 0 and 2 tell the words 50 and 51; there is a text and a saved state, too. */
    static MastFlags signalling() {
        MastFlags x = withBook();
        x.bend(0, 0);
        x.bend(2, 1);
        type(x, "0:1");
        x.save();
        return x;
    }

    static MastFlags atTheDip() {
        MastFlags x = withBook();
        x.bend(0, 0);
        x.bend(3, 1);
        x.answer();
        return x;
    }

    static MastFlags closeUp() {
        MastFlags x = atTheDip();
        x.answer();
        return x;
    }

    /** Something of everything: a message in the log, a text, a saved state, five recorded states. */
    static MastFlags full() {
        MastFlags x = closeUp();
        x.lower();
        x.save();
        type(x, "0:012r1,2:");
        x.bend(0, 9);
        x.bend(0, MastFlags.PENNANT + 1);
        x.bend(0, 8);
        x.bend(0, 7);
        x.bend(2, 9);
        x.bend(4, 0);
        x.answer();
        return x;
    }

    static void type(MastFlags x, String text) {
        for (int index = 0; index < text.length(); index++) {
            x.append(text.charAt(index));
        }
    }
}
