/** Promises 14 to 17: seen, word, known, isSame. */
public final class ReadingTest {
    private static final int PENNANT = MastFlags.PENNANT;
    private static final Checks checks = new Checks();

    public static void main(String[] args) {
        seenFromBothSides();
        seenLowestFlag();
        seenDroops();
        seenPennants();
        seenRefuses();
        wordOrder();
        wordByFirstEntry();
        wordNotKnown();
        wordRefuses();
        known();
        isSame();
        checks.finish();
    }

    /** Flag 3 is 3 and 2, flag 6 is its mirror. */
    private static MastFlags mirrored() {
        MastFlags x = new MastFlags();
        x.paint(6, 2, 3, 1);
        x.bend(1, 3);
        x.bend(1, 6);
        return x;
    }

    private static void seenFromBothSides() {
        for (int from = 0; from <= 1; from++) {
            for (int side = 0; side <= 1; side++) {
                MastFlags x = mirrored();
                x.setWind(5, from);
                String what = "wind " + from + ", side " + side;
                checks.due(what, x.seen(side, 1, 1), side == from ? 3 : 6);
                checks.due(what, x.seen(side, 1, 2), side == from ? 6 : 3);
            }
        }
        MastFlags x = new MastFlags();
        x.bend(0, 3);
        checks.due("as itself", x.seen(0, 0, 1), 3);
        checks.due("no flag is its mirror", x.seen(1, 0, 1), MastFlags.NONE);
        checks.onlyTells("seen", ReadingTest::mirrored, y -> y.seen(1, 1, 1), 6);
    }

    private static void seenLowestFlag() {
        MastFlags x = new MastFlags();
        x.bend(0, 8);
        checks.due("8 looks like 0", x.seen(0, 0, 1), 0);
        x.paint(0, 7, 7, 9);
        checks.due("8 now as itself", x.seen(0, 0, 1), 8);
        x.paint(2, 1, 0, 9);
        checks.due("8 mirrored, though 2 would droop", x.seen(1, 0, 1), 2);
    }

    private static void seenDroops() {
        MastFlags x = mirrored();
        x.setWind(1, 0);
        checks.due("as heavy as the wind", x.seen(0, 1, 1), 3);
        x.setWind(0, 0);
        checks.due("droops, front", x.seen(0, 1, 1), MastFlags.NONE);
        checks.due("droops, behind", x.seen(1, 1, 1), MastFlags.NONE);
        x.paint(3, 3, 2, 0);
        checks.due("no weight", x.seen(0, 1, 1), 3);
        checks.due("no weight, taken for one that droops", x.seen(1, 1, 1), 6);
    }

    private static void seenPennants() {
        MastFlags x = mirrored();
        x.bend(1, PENNANT + 2);
        x.bend(1, PENNANT + 3);
        checks.due("front, repeats", x.seen(0, 1, 3), 6);
        checks.due("front, repeats a pennant", x.seen(0, 1, 4), 6);
        checks.due("behind, repeats", x.seen(1, 1, 3), 3);
        x.setWind(0, 0);
        checks.due("repeats what droops", x.seen(0, 1, 4), MastFlags.NONE);
    }

    private static void seenRefuses() {
        checks.refused("side -1", Masts::full, y -> y.seen(-1, 0, 1), MastFlags.BAD_VALUE);
        checks.refused("side 2", Masts::full, y -> y.seen(2, 0, 1), MastFlags.BAD_VALUE);
        checks.refused("side ahead of halyard", Masts::full, y -> y.seen(2, 5, 9), MastFlags.BAD_VALUE);
        checks.refused("halyard -1", Masts::full, y -> y.seen(0, -1, 1), MastFlags.NO_SUCH);
        checks.refused("halyard 5", Masts::full, y -> y.seen(0, 5, 1), MastFlags.NO_SUCH);
        checks.refused("place 0", Masts::full, y -> y.seen(0, 0, 0), MastFlags.NO_SUCH);
        checks.refused("place 5", Masts::full, y -> y.seen(0, 0, 5), MastFlags.NO_SUCH);
        checks.refused("place 2 of 1", Masts::full, y -> y.seen(0, 2, 2), MastFlags.NO_SUCH);
        checks.refused("empty hoist", Masts::full, y -> y.seen(0, 1, 1), MastFlags.NO_SUCH);
    }

    private static void wordOrder() {
        MastFlags x = Masts.withBook();
        x.bend(1, 0);
        x.bend(2, 1);
        x.bend(4, 2);
        for (int word = 0; word < 3; word++) {
            checks.due("front", x.word(0, word), 50 + word);
            checks.due("behind", x.word(1, word), 52 - word);
        }
        checks.due("front, no more", x.word(0, 3), MastFlags.NO_SUCH);
        checks.due("behind, no more", x.word(1, 3), MastFlags.NO_SUCH);
        x.bend(0, 2);
        x.bend(3, 2);
        checks.due("front, the fifth", x.word(0, 4), 52);
        checks.due("behind, the fifth", x.word(1, 4), 52);
        checks.due("front, the second", x.word(0, 1), 50);
        checks.due("front, no sixth", x.word(0, 5), MastFlags.NO_SUCH);
    }

    private static void wordByFirstEntry() {
        MastFlags x = Masts.withBook();
        x.enter(11, 60);
        x.enter(1122, 61);
        x.enter(112, 62);
        x.enter(121, 63);
        x.enter(1111, 64);
        x.bend(0, 1);
        checks.due("the first of two", x.word(0, 0), 51);
        x.strike(1);
        checks.due("then the second", x.word(0, 0), 60);
        x.bend(0, 2);
        checks.due("two flags in their order", x.word(0, 0), 62);
        x.exchange(0, 1);
        checks.due("wherever it is", x.word(1, 0), 62);
        x.bend(1, 2);
        checks.due("three flags", x.word(0, 0), 61);
        x.bend(1, 1);
        checks.due("four flags without an entry", x.word(0, 0), MastFlags.NONE);
        x.enter(11221, 65);
        checks.due("four flags", x.word(0, 0), 65);
        x.lower();
        x.bend(0, 1);
        x.bend(0, PENNANT + 1);
        x.bend(0, PENNANT + 2);
        checks.due("by pennants", x.word(0, 0), 64);
    }

    private static void wordNotKnown() {
        MastFlags x = Masts.withBook();
        x.enter(103, 70);
        x.bend(0, 0);
        x.bend(0, 3);
        checks.due("front", x.word(0, 0), 70);
        checks.due("behind, a flag is not known", x.word(1, 0), MastFlags.NONE);
        x.setWind(0, 0);
        checks.due("front, it droops", x.word(0, 0), MastFlags.NONE);
        x.unbend(0);
        checks.due("both know it", x.word(1, 0), 50);
        x.lower();
        x.bend(0, 7);
        x.bend(1, 0);
        checks.due("not known, but a word", x.word(0, 0), MastFlags.NONE);
        checks.due("behind it", x.word(0, 1), 50);
    }

    private static void wordRefuses() {
        checks.refused("side -1", Masts::full, y -> y.word(-1, 0), MastFlags.BAD_VALUE);
        checks.refused("side 2", Masts::full, y -> y.word(2, 0), MastFlags.BAD_VALUE);
        checks.refused("side ahead of word", Masts::full, y -> y.word(2, 9), MastFlags.BAD_VALUE);
        checks.refused("word -1", Masts::full, y -> y.word(0, -1), MastFlags.NO_SUCH);
        checks.refused("word 3 of 3", Masts::full, y -> y.word(1, 3), MastFlags.NO_SUCH);
        checks.refused("empty", MastFlags::new, y -> y.word(0, 0), MastFlags.NO_SUCH);
        checks.onlyTells("word", Masts::full, y -> y.word(1, 0), 50);
    }

    private static void known() {
        MastFlags x = Masts.withBook();
        checks.due("none", x.known(0), 0);
        x.enter(13, 73);
        x.bend(0, 0);
        x.bend(1, 3);
        x.bend(2, 9);
        x.bend(4, 1);
        checks.due("front", x.known(0), 3);
        checks.due("behind", x.known(1), 2);
        x.setWind(5, 1);
        checks.due("front, wind from the right", x.known(0), 2);
        checks.due("behind, wind from the right", x.known(1), 3);
        checks.onlyTells("known", Masts::full, y -> y.known(0), 1);
        checks.refused("side -1", Masts::full, y -> y.known(-1), MastFlags.BAD_VALUE);
        checks.refused("side 2", Masts::full, y -> y.known(2), MastFlags.BAD_VALUE);
    }

    private static void isSame() {
        MastFlags x = Masts.withBook();
        checks.due("no hoists", x.isSame(), 0);
        x.bend(1, 0);
        checks.due("one", x.isSame(), 1);
        x.bend(2, 1);
        checks.due("two others", x.isSame(), 0);
        x.bend(4, 0);
        checks.due("a word at both ends", x.isSame(), 1);
        x.bend(3, 9);
        checks.due("a word that none knows", x.isSame(), 0);
        x.unbend(3);
        x.unbend(2);
        x.bend(2, 9);
        checks.due("in the middle", x.isSame(), 0);
        MastFlags mirror = new MastFlags();
        mirror.paint(6, 2, 3, 1);
        mirror.enter(13, 20);
        mirror.enter(16, 20);
        mirror.bend(0, 3);
        checks.due("other flags, the same word", mirror.isSame(), 1);
        mirror.strike(1);
        checks.due("only one knows it", mirror.isSame(), 0);
        mirror.enter(16, 21);
        checks.due("another word", mirror.isSame(), 0);
        checks.onlyTells("isSame", Masts::full, y -> y.isSame(), 0);
    }
}
