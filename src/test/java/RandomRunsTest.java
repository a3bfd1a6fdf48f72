/**
 * Runs of 512 calls with arguments drawn by a fixed rule, each call answered by the program and by
 * PlainModel. The runs are of several manners, so that each reaches another region.
 */
public final class RandomRunsTest {
    private static final int RUNS = 2500;
    private static final int CALLS = 512;
    private static final int[] FAR = {Integer.MIN_VALUE, Integer.MIN_VALUE + 1, -100, -7, -1, 14, 51,
        100, 1000000000, 1999999999, Integer.MAX_VALUE - 1, Integer.MAX_VALUE};
    private static final String TEXT_SIGNS = "0123401234:::,,,rr5789";
    private static final String[] CALL_NAMES = {
        "paint", "setStock", "setWind", "flag", "bend", "unbend", "exchange", "lower", "sign", "enter",
        "strike", "entry", "seen", "word", "known", "isSame", "sail", "answer", "logged", "total",
        "leastWind", "ifTurned", "mendingExchange", "bestEntry", "append", "errorPosition", "hoist",
        "clearText", "undo", "save", "restore"};

    private static final int PAINT = 0;
    private static final int SET_STOCK = 1;
    private static final int BEND = 4;
    private static final int LOWER = 7;
    private static final int ENTER = 9;
    private static final int ANSWER = 17;
    private static final int LOGGED = 18;
    private static final int APPEND = 24;
    private static final int ERROR_POSITION = 25;
    private static final int HOIST = 26;
    private static final int CLEAR_TEXT = 27;
    /** word, known, isSame, leastWind, ifTurned and, oftener, mendingExchange. */
    private static final int[] LOOKS = {13, 14, 15, 20, 21, 22, 22, 22};

    /** How often each manner makes each of the calls above. */
    private static final String[] MANNERS = {
        // all alike, but that the mast is not emptied all the time
        "2222951233233422443233224322432",
        // signals: hoists, answers and what is read of them
        "0010911222126442191144440211111",
        "0000912022016443091244440111011",
        // texts: mostly appended and hoisted
        "1110100022022211211111110429121",
        // the book
        "2130201129940100000100090000211",
        // undone and restored
        "1111311111010000221300001111959"};

    private final Checks checks = new Checks();
    private final int[] succeeded = new int[CALL_NAMES.length];
    private int manyWords = 0;
    private int mended = 0;
    private int calls;
    private long seed;
    private MastFlags program;
    private PlainModel model;
    private int flags;
    private int words;

    public static void main(String[] args) {
        RandomRunsTest test = new RandomRunsTest();
        for (int run = 0; run < RUNS; run++) {
            test.run(run);
        }
        test.reachEnough();
        test.checks.finish();
    }

    /** These runs show little unless each call often succeeds. */
    private void reachEnough() {
        for (int call = 0; call < succeeded.length; call++) {
            checks.due(CALL_NAMES[call] + " succeeds too seldom", succeeded[call] < RUNS ? 1 : 0, 0);
        }
        checks.due("messages of 3 words and more are too few", manyWords < RUNS / 5 ? 1 : 0, 0);
        checks.due("exchanges that mend are too few", mended < RUNS / 5 ? 1 : 0, 0);
    }

    private void run(int run) {
        seed = 7919L * run + 1;
        calls = 0;
        program = new MastFlags();
        model = new PlainModel();
        flags = 2 + draw(9);
        words = 1 + draw(5);
        String manner = MANNERS[draw(MANNERS.length)];
        if (draw(4) > 0) {
            prepare(run);
        }
        while (calls < CALLS) {
            if (draw(60) == 0) {
                typeText(run);
            }
            if (draw(25) == 0) {
                signal(run);
            }
            compare(run, drawCall(manner));
        }
    }

    private int draw(int bound) {
        seed = seed * 6364136223846793005L + 1442695040888963407L;
        return (int) ((seed >>> 33) % bound);
    }

    private int drawCall(String manner) {
        int sum = manner.chars().map(c -> c - '0').sum();
        int left = draw(sum);
        int call = 0;
        while (left >= manner.charAt(call) - '0') {
            left -= manner.charAt(call) - '0';
            call++;
        }
        return call;
    }

    /** Words that both readers know are rare by chance alone. */
    private void prepare(int run) {
        for (int flag = 0; flag < 4; flag++) {
            int colour = draw(8);
            int fly = draw(4) == 0 ? draw(8) : colour;
            compare(run, PAINT, flag, colour, fly, flag * draw(3));
            compare(run, ENTER, 10 + flag, draw(words));
        }
        compare(run, SET_STOCK, 3);
        flags = 4;
    }

    /** Mostly within 0 to most, at times at the edges beside it or far off. */
    private int number(int most) {
        int chance = draw(60);
        if (chance == 0) {
            return FAR[draw(FAR.length)];
        }
        if (chance == 1) {
            return -1;
        }
        return chance == 2 ? most + 1 : draw(most + 1);
    }

    /** The lowest numbers oftener. */
    private int lowNumber(int most) {
        return draw(3) > 0 ? draw(2) : number(most);
    }

    private int aFlag() {
        return draw(4) > 0 ? draw(Math.min(flags, 10)) : number(9);
    }

    private int aSign() {
        return draw(5) > 0 ? aFlag() : 10 + number(3);
    }

    private int aWord() {
        return draw(8) > 0 ? draw(words) : number(99);
    }

    private int aFlagsNumber() {
        if (draw(2) == 0) {
            return readNumber(draw(2), draw(5));
        }
        int number = draw(30) == 0 ? number(3) : 1;
        for (int length = 1 + Math.min(draw(5), draw(5)); length > 0; length--) {
            number = 10 * number + Math.max(aFlag(), 0) % 10;
        }
        return draw(40) == 0 ? number(200000) : number;
    }

    /** The number of what a reader sees on a halyard, so that its word can become known. */
    private int readNumber(int side, int halyard) {
        int number = 1;
        for (int place = 1; model.seen(side, halyard, place) >= 0; place++) {
            number = 10 * number + model.seen(side, halyard, place);
        }
        return number;
    }

    private int aCode() {
        return draw(4) == 0 ? number(127) : TEXT_SIGNS.charAt(draw(TEXT_SIGNS.length()));
    }

    /** Types a text that is mostly a good one, and mostly hoists it. */
    private void typeText(int run) {
        StringBuilder text = new StringBuilder();
        int step = 1 + draw(3);
        for (int halyard = draw(3); halyard < 5; halyard += 1 + draw(step)) {
            text.append(text.length() == 0 ? "" : ",").append(halyard).append(':').append(draw(flags) % 10);
            int more = Math.min(draw(4), draw(4));
            for (int size = 1; size <= more; size++) {
                text.append(draw(3) == 0 ? "r" + (1 + draw(size)) : String.valueOf(draw(flags) % 10));
            }
        }
        if (draw(5) == 0) {
            text.setCharAt(draw(text.length()), TEXT_SIGNS.charAt(draw(TEXT_SIGNS.length())));
        }
        if (draw(3) > 0) {
            compare(run, CLEAR_TEXT);
        }
        for (int index = 0; index < text.length(); index++) {
            compare(run, APPEND, text.charAt(index));
        }
        compare(run, ERROR_POSITION);
        if (draw(5) > 0) {
            compare(run, HOIST);
        }
    }

    /** Hoists some signs that are mostly known, looks at them, and mostly lets the other ship answer. */
    private void signal(int run) {
        compare(run, LOWER);
        for (int halyard = 0; halyard < 5; halyard++) {
            if (draw(3) > 0) {
                compare(run, BEND, halyard, draw(Math.min(flags, 3 + draw(2))));
            }
            if (draw(8) == 0) {
                compare(run, BEND, halyard, aSign());
                compare(run, ENTER, readNumber(draw(2), halyard), aWord());
            }
        }
        for (int looks = draw(4); looks > 0; looks--) {
            compare(run, LOOKS[draw(LOOKS.length)]);
        }
        if (draw(4) > 0) {
            compare(run, ANSWER);
            compare(run, ANSWER);
            compare(run, LOWER);
            compare(run, LOGGED, number(7), number(5));
        }
    }

    /** Draws the arguments of a call, then compares. */
    private void compare(int run, int call) {
        switch (CALL_NAMES[call]) {
            case "paint": compare(run, call, aFlag(), number(7), number(7), number(9)); break;
            case "setStock": compare(run, call, draw(4) == 0 ? number(3) : 3); break;
            case "setWind": compare(run, call, draw(3) == 0 ? number(9) : 9, number(1)); break;
            case "flag": compare(run, call, number(9), number(4)); break;
            case "bend": compare(run, call, number(4), aSign()); break;
            case "exchange": compare(run, call, number(4), number(4)); break;
            case "sign": compare(run, call, number(4), 1 + lowNumber(4), number(2)); break;
            case "enter": compare(run, call, aFlagsNumber(), aWord()); break;
            case "strike": compare(run, call, lowNumber(11)); break;
            case "entry": compare(run, call, number(11), number(1)); break;
            case "seen": compare(run, call, number(1), number(4), 1 + lowNumber(4)); break;
            case "word": compare(run, call, number(1), lowNumber(5)); break;
            case "logged": compare(run, call, lowNumber(8), lowNumber(6)); break;
            case "total": compare(run, call, number(9)); break;
            case "bestEntry": compare(run, call, aWord()); break;
            case "append": compare(run, call, aCode()); break;
            case "unbend": compare(run, call, number(4)); break;
            default: compare(run, call, number(3) == 0 ? number(1) : draw(2)); break;
        }
    }

    private void compare(int run, int call, int... given) {
        if (calls >= CALLS) {
            return;
        }
        calls++;
        int[] a = java.util.Arrays.copyOf(given, 4);
        String name = CALL_NAMES[call];
        int want = ofModel(name, a);
        int got = ofProgram(name, a);
        if (got >= 0) {
            succeeded[call]++;
        }
        if (name.equals("lower") && got >= 3) {
            manyWords++;
        }
        if (name.equals("mendingExchange") && got > 0) {
            mended++;
        }
        if (got != want) {
            checks.due("run " + run + ", call " + calls + ", " + name + java.util.Arrays.toString(given), got, want);
        } else {
            checks.due(name, got, want);
        }
    }

    private int ofProgram(String name, int[] a) {
        switch (name) {
            case "paint": return program.paint(a[0], a[1], a[2], a[3]);
            case "setStock": return program.setStock(a[0]);
            case "setWind": return program.setWind(a[0], a[1]);
            case "flag": return program.flag(a[0], a[1]);
            case "bend": return program.bend(a[0], a[1]);
            case "unbend": return program.unbend(a[0]);
            case "exchange": return program.exchange(a[0], a[1]);
            case "lower": return program.lower();
            case "sign": return program.sign(a[0], a[1], a[2]);
            case "enter": return program.enter(a[0], a[1]);
            case "strike": return program.strike(a[0]);
            case "entry": return program.entry(a[0], a[1]);
            case "seen": return program.seen(a[0], a[1], a[2]);
            case "word": return program.word(a[0], a[1]);
            case "known": return program.known(a[0]);
            case "isSame": return program.isSame();
            case "sail": return program.sail(a[0]);
            case "answer": return program.answer();
            case "logged": return program.logged(a[0], a[1]);
            case "total": return program.total(a[0]);
            case "leastWind": return program.leastWind(a[0]);
            case "ifTurned": return program.ifTurned(a[0]);
            case "mendingExchange": return program.mendingExchange();
            case "bestEntry": return program.bestEntry(a[0]);
            case "append": return program.append(a[0]);
            case "errorPosition": return program.errorPosition();
            case "hoist": return program.hoist();
            case "clearText": return program.clearText();
            case "undo": return program.undo();
            case "save": return program.save();
            default: return program.restore();
        }
    }

    private int ofModel(String name, int[] a) {
        switch (name) {
            case "paint": return model.paint(a[0], a[1], a[2], a[3]);
            case "setStock": return model.setStock(a[0]);
            case "setWind": return model.setWind(a[0], a[1]);
            case "flag": return model.flag(a[0], a[1]);
            case "bend": return model.bend(a[0], a[1]);
            case "unbend": return model.unbend(a[0]);
            case "exchange": return model.exchange(a[0], a[1]);
            case "lower": return model.lower();
            case "sign": return model.sign(a[0], a[1], a[2]);
            case "enter": return model.enter(a[0], a[1]);
            case "strike": return model.strike(a[0]);
            case "entry": return model.entry(a[0], a[1]);
            case "seen": return model.seen(a[0], a[1], a[2]);
            case "word": return model.word(a[0], a[1]);
            case "known": return model.known(a[0]);
            case "isSame": return model.isSame();
            case "sail": return model.sail(a[0]);
            case "answer": return model.answer();
            case "logged": return model.logged(a[0], a[1]);
            case "total": return model.total(a[0]);
            case "leastWind": return model.leastWind(a[0]);
            case "ifTurned": return model.ifTurned(a[0]);
            case "mendingExchange": return model.mendingExchange();
            case "bestEntry": return model.bestEntry(a[0]);
            case "append": return model.append(a[0]);
            case "errorPosition": return model.errorPosition();
            case "hoist": return model.hoist();
            case "clearText": return model.clearText();
            case "undo": return model.undo();
            case "save": return model.save();
            default: return model.restore();
        }
    }
}
