/** Promises 22 to 25: leastWind, ifTurned, mendingExchange, bestEntry. */
public final class PredictionsTest {
    private static final int PENNANT = MastFlags.PENNANT;
    private static final Checks checks = new Checks();

    public static void main(String[] args) {
        leastWind();
        ifTurned();
        mendingExchange();
        mendingExchangeLeast();
        mendingExchangeOfWords();
        bestEntry();
        bestEntryNotAsItself();
        checks.finish();
    }

    private static void leastWind() {
        MastFlags x = Masts.withBook();
        checks.due("no hoists", x.leastWind(0), MastFlags.NONE);
        x.bend(0, 0);
        checks.due("no weight", x.leastWind(0), 0);
        x.paint(1, 2, 2, 9);
        x.bend(1, 1);
        checks.due("the heaviest", x.leastWind(1), 9);
        x.paint(1, 2, 2, 6);
        x.setWind(0, 1);
        checks.due("whatever it is now", x.leastWind(0), 6);
        x.enter(13, 53);
        x.bend(4, 3);
        checks.due("front, mirrored", x.leastWind(0), MastFlags.NONE);
        checks.due("behind", x.leastWind(1), 6);
        x.setWind(9, 0);
        checks.due("front, from the left", x.leastWind(0), 6);
        checks.due("behind, from the left", x.leastWind(1), MastFlags.NONE);
        x.bend(2, 9);
        checks.due("a word that is not in the book", x.leastWind(0), MastFlags.NONE);
        x.lower();
        x.enter(122, 54);
        x.paint(2, 3, 3, 3);
        x.bend(0, 2);
        x.bend(0, PENNANT + 1);
        checks.due("a pennant has no weight of its own", x.leastWind(0), 3);
        checks.onlyTells("leastWind", Masts::atTheDip, y -> y.leastWind(1), 0);
        checks.refused("side -1", Masts::full, y -> y.leastWind(-1), MastFlags.BAD_VALUE);
        checks.refused("side 2", Masts::full, y -> y.leastWind(2), MastFlags.BAD_VALUE);
    }

    private static void ifTurned() {
        MastFlags x = Masts.withBook();
        checks.due("no hoists", x.ifTurned(0), 0);
        x.enter(13, 53);
        x.bend(0, 3);
        x.bend(1, 1);
        checks.due("front", x.ifTurned(0), 1);
        checks.due("behind", x.ifTurned(1), 2);
        x.setWind(0, 1);
        checks.due("front, weak", x.ifTurned(0), 1);
        x.setWind(1, 1);
        checks.due("front, from the right", x.ifTurned(0), 2);
        checks.due("behind, from the right", x.ifTurned(1), 1);
        checks.onlyTells("ifTurned", Masts::atTheDip, y -> y.ifTurned(0), 2);
        checks.refused("side -1", Masts::full, y -> y.ifTurned(-1), MastFlags.BAD_VALUE);
        checks.refused("side 2", Masts::full, y -> y.ifTurned(2), MastFlags.BAD_VALUE);
    }

    private static void mendingExchange() {
        MastFlags x = Masts.withBook();
        checks.due("no hoists", x.mendingExchange(), MastFlags.NONE);
        x.bend(0, 0);
        checks.due("it is the same", x.mendingExchange(), 0);
        x.bend(1, 1);
        checks.due("nothing mends it", x.mendingExchange(), MastFlags.NONE);
        x.bend(2, 1);
        checks.due("0 and 1", x.mendingExchange(), 1);
        x.exchange(0, 1);
        checks.due("mended", x.isSame(), 1);
        checks.due("it is the same now", x.mendingExchange(), 0);
        MastFlags last = Masts.withBook();
        last.bend(2, 0);
        last.bend(3, 0);
        last.bend(4, 1);
        checks.due("3 and 4", last.mendingExchange(), 34);
        last.bend(1, 9);
        checks.due("an unknown word", last.mendingExchange(), MastFlags.NONE);
        checks.onlyTells("mendingExchange", PredictionsTest::unmended, y -> y.mendingExchange(), 2);
        checks.onlyTells("mendingExchange", Masts::atTheDip, y -> y.mendingExchange(), MastFlags.NONE);
    }

    /** Words 51, 50, 50 on 1, 2, 3: the first 50 can go to 0. */
    private static MastFlags unmended() {
        MastFlags x = Masts.withBook();
        x.bend(1, 1);
        x.bend(2, 0);
        x.bend(3, 0);
        x.save();
        x.answer();
        return x;
    }

    private static void mendingExchangeLeast() {
        MastFlags x = Masts.withBook();
        x.bend(0, 0);
        x.bend(1, 0);
        x.bend(2, 1);
        x.bend(3, 1);
        checks.due("0 with 2 ahead of 1 with 3", x.mendingExchange(), 2);
        MastFlags over = Masts.withBook();
        over.bend(0, 0);
        over.bend(3, 1);
        over.bend(4, 1);
        checks.due("with an empty hoist between", over.mendingExchange(), 3);
        MastFlags empty = Masts.withBook();
        empty.bend(0, 0);
        empty.bend(2, 1);
        empty.bend(3, 0);
        empty.exchange(2, 3);
        checks.due("an exchange with an empty one", empty.mendingExchange(), 4);
        MastFlags five = Masts.withBook();
        five.bend(0, 0);
        five.bend(1, 1);
        five.bend(2, 1);
        five.bend(3, 2);
        five.bend(4, 0);
        checks.due("all five, 2 and 3", five.mendingExchange(), 23);
        MastFlags apart = Masts.withBook();
        apart.bend(0, 0);
        apart.bend(3, 0);
        apart.bend(4, 1);
        checks.due("0 with 4 is no better", apart.mendingExchange(), 14);
    }

    private static void mendingExchangeOfWords() {
        MastFlags x = new MastFlags();
        x.paint(6, 2, 3, 1);
        x.enter(13, 20);
        x.enter(16, 21);
        x.enter(1234, 22);
        x.bend(0, 3);
        checks.due("3 is 6 from behind", x.mendingExchange(), MastFlags.NONE);
        x.bend(4, 6);
        checks.due("20, 21 from both sides", x.isSame(), 1);
        x.exchange(4, 3);
        x.paint(7, 7, 7, 0);
        x.enter(17, 23);
        x.bend(4, 7);
        checks.due("23 to the middle", x.mendingExchange(), 14);
        checks.due("nothing was exchanged", x.sign(4, 1, 0), 7);
    }

    private static void bestEntry() {
        MastFlags x = new MastFlags();
        checks.due("empty book", x.bestEntry(7), MastFlags.NONE);
        x.enter(11234, 7);
        checks.due("four flags", x.bestEntry(7), 0);
        x.enter(123, 8);
        x.enter(123, 7);
        checks.due("two flags, told ahead for 8", x.bestEntry(7), 2);
        x.enter(145, 7);
        checks.due("the first of two", x.bestEntry(7), 2);
        x.enter(1156, 7);
        checks.due("not a longer one", x.bestEntry(7), 2);
        x.enter(15, 7);
        checks.due("the shortest", x.bestEntry(7), 5);
        checks.due("8", x.bestEntry(8), 1);
        checks.due("9 has none", x.bestEntry(9), MastFlags.NONE);
        x.enter(1555, 0);
        x.enter(10, 99);
        checks.due("word 0, the pieces do not matter", x.bestEntry(0), 6);
        checks.due("word 99", x.bestEntry(99), 7);
        checks.onlyTells("bestEntry", Masts::full, y -> y.bestEntry(51), 1);
        checks.refused("word -1", Masts::full, y -> y.bestEntry(-1), MastFlags.BAD_VALUE);
        checks.refused("word 100", Masts::full, y -> y.bestEntry(100), MastFlags.BAD_VALUE);
    }

    private static void bestEntryUppermost() {
        MastFlags x = new MastFlags();
        x.paint(0, 7, 7, 9);
        x.enter(10, 1);
        x.enter(101, 1);
        x.enter(1012, 1);
        x.enter(10123, 1);
        checks.due("only the uppermost one droops", x.bestEntry(1), MastFlags.NONE);
        x.setWind(9, 0);
        checks.due("it flies", x.bestEntry(1), 0);
    }

    private static void bestEntryLengths() {
        MastFlags x = new MastFlags();
        int[] numbers = {10000, 1000, 100, 10, 11};
        int[] best = {0, 1, 2, 3, 3};
        for (int entry = 0; entry < numbers.length; entry++) {
            x.enter(numbers[entry], 1);
            checks.due("the shortest of " + (entry + 1), x.bestEntry(1), best[entry]);
        }
        MastFlags other = new MastFlags();
        other.enter(100, 1);
        other.enter(11, 1);
        other.enter(10, 1);
        checks.due("one flag ahead of the flags 0 and 0", other.bestEntry(1), 1);
    }

    private static void bestEntryNotAsItself() {
        MastFlags x = new MastFlags();
        x.enter(18, 5);
        checks.due("8 is taken for 0", x.bestEntry(5), MastFlags.NONE);
        x.enter(1672, 5);
        checks.due("as themselves", x.bestEntry(5), 1);
        x.setWind(2, 0);
        checks.due("the middle one droops", x.bestEntry(5), MastFlags.NONE);
        x.setWind(3, 0);
        checks.due("as heavy as the wind", x.bestEntry(5), 1);
        x.setWind(9, 1);
        checks.due("mirrored", x.bestEntry(5), MastFlags.NONE);
        x.paint(4, 5, 5, 0);
        x.enter(14, 5);
        checks.due("of one colour", x.bestEntry(5), 2);
        x.enter(15, 6);
        x.enter(134, 6);
        x.sail(1);
        checks.due("the front reads, whoever sails where", x.bestEntry(6), MastFlags.NONE);
        bestEntryUppermost();
        bestEntryLengths();
        MastFlags mirror = new MastFlags();
        mirror.paint(6, 2, 3, 0);
        mirror.enter(13, 1);
        mirror.enter(163, 1);
        mirror.setWind(5, 1);
        checks.due("one for the other", mirror.bestEntry(1), MastFlags.NONE);
    }
}
